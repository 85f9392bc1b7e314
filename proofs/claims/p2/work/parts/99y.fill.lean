def wf_c_fillIw : List Cond := [.code yJ7_fill_53178 cJ7_fill_53178 4 none]
def wp_c_fillIw : List Cond := wf_c_fillIw ++ []
theorem wg_c_fillIw : wf_c_fillIw.all goodWord = true := by decide +kernel
theorem wm_c_fillIw (k : Nat) {w : Cond} (h : wp_c_fillIw[k]? = some w) : w ∈ wp_c_fillIw := List.mem_of_getElem? h
set_option maxHeartbeats 4000000 in
set_option maxRecDepth 100000 in
theorem c_fillIw (l : Launch) (dC : Nat → ClassId) (dI : Nat → Nat → Nat) (r N : Nat) (kI : ClassId) (f : Nat → Int32) (v : Int32) (sz : Nat) (hN : N < 2 ^ 30) : Met l yJ7_fill_53178 wp_c_fillIw ({ frames := 0, cells := 0, slots := 0, locals := 0 }) (va_Pc [.ref r, .int v] (fun U => U.heap.size = sz ∧ va_P (dC, dI) vwCl [(r, .inl (kI, N, .inl f))] U.heap ∧ va_K (dC, dI) vwCl [(kI, .int)] U ∧ va_D (fun _ => True) [(r, .inl (kI, N, .inl f))])) (va_Qv (fun _ : Unit => True) (fun (_ : Unit) (tS : State) => ∃ (g : Nat → Int32), (flI 0 N v f g) ∧ va_P (dC, dI) vwCl [(r, .inl (kI, N, .inl g))] tS.heap ∧ va_K (dC, dI) vwCl [(kI, .int)] tS ∧ va_D (va_A [(r, .inl (kI, N, .inl f))] sz) [(r, .inl (kI, N, .inl g))]) (va_A [(r, .inl (kI, N, .inl f))] sz)) 0 0 (va_A [(r, .inl (kI, N, .inl f))] sz) := by
  refine Met.ofW (cc := cJ7_fill_53178) (maxL := 4) (ret := none) (by decide) rfl ?_
  intro p e s m args below meth c s₁ B hml hv
  obtain ⟨rfl, hsz, hP, hK, hD0⟩ := hv
  have hx := B.exec
  have hb := B.bytes
  have hr := B.returns
  have hts := atoms_spec (ws := wp_c_fillIw) B.pre
  have hown : s.vm.findClass RJ7 = some m.cls := findClass_of_methodNamed B.named
  have hlocks := B.notSynchronized
  subst hsz
  have hD := hD0.self (sz := s.heap.size)
  generalize hAe : va_A [(r, .inl (kI, N, .inl f))] s.heap.size = A at hD ⊢
  have hA : ∀ q : Nat, s.heap.size ≤ q → A q := fun q h => by rw [← hAe]; exact Or.inr h
  have hS : va_S A s.heap s.heap [] := va_S.rf
  have hP : va_P (dC, dI) vwCl [(r, .inl (kI, N, .inl f))] s.heap := hP
  have hl := lv_entry ([.ref r, .int v]) (n := 4) (Nat.le_of_ble_eq_true rfl)
  rw [lg_entry_eq]
  generalize (lg_sl ([.ref r, .int v]) ++ List.replicate (4 - (lg_sl ([.ref r, .int v])).length) Slot.unset).toArray = ls at hl ⊢
  have hl : lv_has ls 4 [(0, .ref r), (1, .int v)] := hl
  refine lv_iconst (v := 0) hx hb dJ7_fill_53178_0 (by decide) ?_
  refine lv_istore_n (lv' := [(2, .int 0), (0, .ref r), (1, .int v)]) hx hb dJ7_fill_53178_1 rfl hl (by decide) rfl (fun ls hl => ?_)
  refine lv_aload_n hx hb dJ7_fill_53178_2 rfl (lv_at hl 1 rfl) ?_
  refine va_alen (v := nI N) hx hb hK hP 0 0 rfl rfl rfl dJ7_fill_53178_3 ?_
  refine lv_istore_n (lv' := [(3, .int (nI N)), (2, .int 0), (0, .ref r), (1, .int v)]) hx hb dJ7_fill_53178_4 rfl hl (by decide) rfl (fun ls hl => ?_)
  have hl : lv_has ls 4 [(3, .int (nI N)), (2, .int (nI 0)), (0, .ref r), (1, .int v)] := hl
  refine W_q (fun Q1 hQ1 => ?_)
  have key1 : ∀ (n1 : Nat) (i : Nat) (g1 : Nat → Int32) (H : Heap) (locs : List Loc) (ls : Array Slot), (i + n1 = N + 1 ∧ i ≤ N ∧ 0 ≤ i) → (flI 0 i v f g1) → va_P (dC, dI) vwCl [(r, .inl (kI, N, .inl g1))] H → va_D A [(r, .inl (kI, N, .inl g1))] → va_S A s.heap H locs → lv_has ls 4 [(3, .int (nI N)), (2, .int (nI i)), (0, .ref r), (1, .int v)] → W p l e (headSpec wp_c_fillIw ({ frames := 0, cells := 0, slots := 0, locals := 0 })).room s m ([.ref r, .int v] : List Value).toArray below meth c H locs 0 0 Q1 (F0 m 5 ls []) := by
    intro n1
    induction n1 with
    | zero => intro i g1 H locs ls hb0 hb1; exact absurd hb0 (by omega)
    | succ n1 ih1 =>
      intro i g1 H locs ls hb0 hb1 hP hD hS hl
      refine lv_iload_n hx hb dJ7_fill_53178_5 rfl (lv_at hl 1 rfl) ?_
      refine lv_iload_n hx hb dJ7_fill_53178_6 rfl (lv_at hl 0 rfl) ?_
      refine lv_icmp_ge (tgt := 20) hx hb dJ7_fill_53178_7 (by decide) (fun hc => ?_) (fun hc => ?_)
      · have hi : i = N := by have := (nI_leI (a := N) (b := i) (by omega) (by omega)).mp hc; omega
        have hP9 := hP.sub (ws' := [(r, .inl (kI, N, .inl g1))]) [0] rfl
        have hD9 := hD.sub (ws' := [(r, .inl (kI, N, .inl g1))]) [0] (by decide) rfl
        have hK9 := hK.sub (tys' := [(kI, .int)]) [0] rfl
        subst hQ1
        exact W.vret hx hb hr (fun tS ht hW => ⟨⟨(), rfl, trivial, g1, by rw [← hi]; exact hb1, by rw [ht]; exact hP9, va_K.moved hW.alike hK9, hD9⟩, hS.F ht⟩) hS.2.2 dJ7_fill_53178_20
      · have hi : i < N := by rcases Nat.lt_or_ge i N with z | z; exact z; exact absurd (nI_le z (by omega)) hc
        refine lv_aload_n hx hb dJ7_fill_53178_10 rfl (lv_at hl 2 rfl) ?_
        refine lv_iload_n hx hb dJ7_fill_53178_11 rfl (lv_at hl 1 rfl) ?_
        refine lv_iload_n hx hb dJ7_fill_53178_12 rfl (lv_at hl 3 rfl) ?_
        refine va_iast hx hb hK hP hD hS 0 0 rfl rfl (vp_in_nI (by omega) (by omega)) dJ7_fill_53178_13 (fun H locs hP hD hS => ?_)
        have hP : va_P (dC, dI) vwCl [(r, .inl (kI, N, .inl (upd g1 (nI i : Int32).toNatClampNeg v)))] H := hP
        have hD : va_D A [(r, .inl (kI, N, .inl (upd g1 (nI i : Int32).toNatClampNeg v)))] := hD
        obtain ⟨g2, eg2⟩ : ∃ zZ : Nat → Int32, zZ = upd g1 (nI i : Int32).toNatClampNeg v := ⟨_, rfl⟩
        rw [← eg2] at hP hD
        have hg2 : flI 0 (i + 1) v f g2 := by rw [eg2, nI_clamp (by omega)]; exact flI_step hb1 (by omega)
        obtain ⟨x_1, ex_1⟩ : ∃ yY : Int32, yY = (nI i) + 1 := ⟨_, rfl⟩
        refine lv_iinc (v := x_1) (lv' := [(2, .int x_1), (3, .int (nI N)), (0, .ref r), (1, .int v)]) hx hb dJ7_fill_53178_14 hl (k := 1) rfl (by rw [ex_1]; rfl) (by decide) rfl (fun ls hl => ?_)
        obtain rfl : x_1 = nI (i + 1) := by rw [ex_1]; exact nI_1 i
        have hl : lv_has ls 4 [(2, .int (nI (i + 1))), (3, .int (nI N)), (0, .ref r), (1, .int v)] := hl
        refine lv_goto (tgt := 5) hx hb dJ7_fill_53178_17 (by decide) ?_
        exact ih1 (i + 1) g2 _ _ _ (by omega) hg2 (hP.sub [0] rfl) (hD.sub [0] (by decide) rfl) hS (lv_sub hl [1, 0, 2, 3] rfl)
  exact key1 (N + 1 - 0) 0 f _ _ _ (by omega) (fun j => ⟨fun h => absurd h (by omega), fun _ => rfl⟩) (hP.sub [0] rfl) (hD.sub [0] (by decide) rfl) hS (lv_sub hl [0, 1, 2, 3] rfl)
def wf_c_fillLw : List Cond := [.code yJ7_fill_d0a16 cJ7_fill_d0a16 5 none]
def wp_c_fillLw : List Cond := wf_c_fillLw ++ []
theorem wg_c_fillLw : wf_c_fillLw.all goodWord = true := by decide +kernel
theorem wm_c_fillLw (k : Nat) {w : Cond} (h : wp_c_fillLw[k]? = some w) : w ∈ wp_c_fillLw := List.mem_of_getElem? h
set_option maxHeartbeats 4000000 in
set_option maxRecDepth 100000 in
theorem c_fillLw (l : Launch) (dC : Nat → ClassId) (dI : Nat → Nat → Nat) (r N : Nat) (kL : ClassId) (f : Nat → Int64) (v : Int64) (sz : Nat) (hN : N < 2 ^ 30) : Met l yJ7_fill_d0a16 wp_c_fillLw ({ frames := 0, cells := 0, slots := 0, locals := 0 }) (va_Pc [.ref r, .long v] (fun U => U.heap.size = sz ∧ va_P (dC, dI) vwCl [(r, .inl (kL, N, .inr (.inl f)))] U.heap ∧ va_K (dC, dI) vwCl [(kL, .long)] U ∧ va_D (fun _ => True) [(r, .inl (kL, N, .inr (.inl f)))])) (va_Qv (fun _ : Unit => True) (fun (_ : Unit) (tS : State) => ∃ (g : Nat → Int64), (flL 0 N v f g) ∧ va_P (dC, dI) vwCl [(r, .inl (kL, N, .inr (.inl g)))] tS.heap ∧ va_K (dC, dI) vwCl [(kL, .long)] tS ∧ va_D (va_A [(r, .inl (kL, N, .inr (.inl f)))] sz) [(r, .inl (kL, N, .inr (.inl g)))]) (va_A [(r, .inl (kL, N, .inr (.inl f)))] sz)) 0 0 (va_A [(r, .inl (kL, N, .inr (.inl f)))] sz) := by
  refine Met.ofW (cc := cJ7_fill_d0a16) (maxL := 5) (ret := none) (by decide) rfl ?_
  intro p e s m args below meth c s₁ B hml hv
  obtain ⟨rfl, hsz, hP, hK, hD0⟩ := hv
  have hx := B.exec
  have hb := B.bytes
  have hr := B.returns
  have hts := atoms_spec (ws := wp_c_fillLw) B.pre
  have hown : s.vm.findClass RJ7 = some m.cls := findClass_of_methodNamed B.named
  have hlocks := B.notSynchronized
  subst hsz
  have hD := hD0.self (sz := s.heap.size)
  generalize hAe : va_A [(r, .inl (kL, N, .inr (.inl f)))] s.heap.size = A at hD ⊢
  have hA : ∀ q : Nat, s.heap.size ≤ q → A q := fun q h => by rw [← hAe]; exact Or.inr h
  have hS : va_S A s.heap s.heap [] := va_S.rf
  have hP : va_P (dC, dI) vwCl [(r, .inl (kL, N, .inr (.inl f)))] s.heap := hP
  have hl := lv_entry ([.ref r, .long v]) (n := 5) (Nat.le_of_ble_eq_true rfl)
  rw [lg_entry_eq]
  generalize (lg_sl ([.ref r, .long v]) ++ List.replicate (5 - (lg_sl ([.ref r, .long v])).length) Slot.unset).toArray = ls at hl ⊢
  have hl : lv_has ls 5 [(0, .ref r), (1, .long v)] := hl
  refine lv_iconst (v := 0) hx hb dJ7_fill_d0a16_0 (by decide) ?_
  refine lv_istore_n (lv' := [(3, .int 0), (0, .ref r), (1, .long v)]) hx hb dJ7_fill_d0a16_1 rfl hl (by decide) rfl (fun ls hl => ?_)
  refine lv_aload_n hx hb dJ7_fill_d0a16_2 rfl (lv_at hl 1 rfl) ?_
  refine va_alen (v := nI N) hx hb hK hP 0 0 rfl rfl rfl dJ7_fill_d0a16_3 ?_
  refine lv_istore (lv' := [(4, .int (nI N)), (3, .int 0), (0, .ref r), (1, .long v)]) hx hb dJ7_fill_d0a16_4 hl (by decide) rfl (fun ls hl => ?_)
  have hl : lv_has ls 5 [(4, .int (nI N)), (3, .int (nI 0)), (0, .ref r), (1, .long v)] := hl
  refine W_q (fun Q1 hQ1 => ?_)
  have key1 : ∀ (n1 : Nat) (i : Nat) (g1 : Nat → Int64) (H : Heap) (locs : List Loc) (ls : Array Slot), (i + n1 = N + 1 ∧ i ≤ N ∧ 0 ≤ i) → (flL 0 i v f g1) → va_P (dC, dI) vwCl [(r, .inl (kL, N, .inr (.inl g1)))] H → va_D A [(r, .inl (kL, N, .inr (.inl g1)))] → va_S A s.heap H locs → lv_has ls 5 [(4, .int (nI N)), (3, .int (nI i)), (0, .ref r), (1, .long v)] → W p l e (headSpec wp_c_fillLw ({ frames := 0, cells := 0, slots := 0, locals := 0 })).room s m ([.ref r, .long v] : List Value).toArray below meth c H locs 0 0 Q1 (F0 m 6 ls []) := by
    intro n1
    induction n1 with
    | zero => intro i g1 H locs ls hb0 hb1; exact absurd hb0 (by omega)
    | succ n1 ih1 =>
      intro i g1 H locs ls hb0 hb1 hP hD hS hl
      refine lv_iload_n hx hb dJ7_fill_d0a16_6 rfl (lv_at hl 1 rfl) ?_
      refine lv_iload hx hb dJ7_fill_d0a16_7 (lv_at hl 0 rfl) ?_
      refine lv_icmp_ge (tgt := 22) hx hb dJ7_fill_d0a16_9 (by decide) (fun hc => ?_) (fun hc => ?_)
      · have hi : i = N := by have := (nI_leI (a := N) (b := i) (by omega) (by omega)).mp hc; omega
        have hP9 := hP.sub (ws' := [(r, .inl (kL, N, .inr (.inl g1)))]) [0] rfl
        have hD9 := hD.sub (ws' := [(r, .inl (kL, N, .inr (.inl g1)))]) [0] (by decide) rfl
        have hK9 := hK.sub (tys' := [(kL, .long)]) [0] rfl
        subst hQ1
        exact W.vret hx hb hr (fun tS ht hW => ⟨⟨(), rfl, trivial, g1, by rw [← hi]; exact hb1, by rw [ht]; exact hP9, va_K.moved hW.alike hK9, hD9⟩, hS.F ht⟩) hS.2.2 dJ7_fill_d0a16_22
      · have hi : i < N := by rcases Nat.lt_or_ge i N with z | z; exact z; exact absurd (nI_le z (by omega)) hc
        refine lv_aload_n hx hb dJ7_fill_d0a16_12 rfl (lv_at hl 2 rfl) ?_
        refine lv_iload_n hx hb dJ7_fill_d0a16_13 rfl (lv_at hl 1 rfl) ?_
        refine lv_lload_n hx hb dJ7_fill_d0a16_14 rfl (lv_at hl 3 rfl) ?_
        refine va_last hx hb hK hP hD hS 0 0 rfl rfl (vp_in_nI (by omega) (by omega)) dJ7_fill_d0a16_15 (fun H locs hP hD hS => ?_)
        have hP : va_P (dC, dI) vwCl [(r, .inl (kL, N, .inr (.inl (vp_updL g1 (nI i : Int32).toNatClampNeg v))))] H := hP
        have hD : va_D A [(r, .inl (kL, N, .inr (.inl (vp_updL g1 (nI i : Int32).toNatClampNeg v))))] := hD
        obtain ⟨g2, eg2⟩ : ∃ zZ : Nat → Int64, zZ = vp_updL g1 (nI i : Int32).toNatClampNeg v := ⟨_, rfl⟩
        rw [← eg2] at hP hD
        have hg2 : flL 0 (i + 1) v f g2 := by rw [eg2, nI_clamp (by omega)]; exact flL_step hb1 (by omega)
        obtain ⟨x_1, ex_1⟩ : ∃ yY : Int32, yY = (nI i) + 1 := ⟨_, rfl⟩
        refine lv_iinc (v := x_1) (lv' := [(3, .int x_1), (4, .int (nI N)), (0, .ref r), (1, .long v)]) hx hb dJ7_fill_d0a16_16 hl (k := 1) rfl (by rw [ex_1]; rfl) (by decide) rfl (fun ls hl => ?_)
        obtain rfl : x_1 = nI (i + 1) := by rw [ex_1]; exact nI_1 i
        have hl : lv_has ls 5 [(3, .int (nI (i + 1))), (4, .int (nI N)), (0, .ref r), (1, .long v)] := hl
        refine lv_goto (tgt := 6) hx hb dJ7_fill_d0a16_19 (by decide) ?_
        exact ih1 (i + 1) g2 _ _ _ (by omega) hg2 (hP.sub [0] rfl) (hD.sub [0] (by decide) rfl) hS (lv_sub hl [1, 0, 2, 3] rfl)
  exact key1 (N + 1 - 0) 0 f _ _ _ (by omega) (fun j => ⟨fun h => absurd h (by omega), fun _ => rfl⟩) (hP.sub [0] rfl) (hD.sub [0] (by decide) rfl) hS (lv_sub hl [0, 1, 2, 3] rfl)
def wf_c_fillBw : List Cond := [.code yJ7_fill_031fb cJ7_fill_031fb 4 none]
def wp_c_fillBw : List Cond := wf_c_fillBw ++ []
theorem wg_c_fillBw : wf_c_fillBw.all goodWord = true := by decide +kernel
theorem wm_c_fillBw (k : Nat) {w : Cond} (h : wp_c_fillBw[k]? = some w) : w ∈ wp_c_fillBw := List.mem_of_getElem? h
set_option maxHeartbeats 4000000 in
set_option maxRecDepth 100000 in
theorem c_fillBw (l : Launch) (dC : Nat → ClassId) (dI : Nat → Nat → Nat) (r N : Nat) (kB : ClassId) (f : Nat → Int32) (v : Int32) (sz : Nat) (hN : N < 2 ^ 30) : Met l yJ7_fill_031fb wp_c_fillBw ({ frames := 0, cells := 0, slots := 0, locals := 0 }) (va_Pc [.ref r, .int v] (fun U => U.heap.size = sz ∧ va_P (dC, dI) vwCl [(r, .inl (kB, N, .inl f))] U.heap ∧ va_K (dC, dI) vwCl [(kB, .byte)] U ∧ va_D (fun _ => True) [(r, .inl (kB, N, .inl f))])) (va_Qv (fun _ : Unit => True) (fun (_ : Unit) (tS : State) => ∃ (g : Nat → Int32), (flI 0 N (vp_nar .byte v) f g) ∧ va_P (dC, dI) vwCl [(r, .inl (kB, N, .inl g))] tS.heap ∧ va_K (dC, dI) vwCl [(kB, .byte)] tS ∧ va_D (va_A [(r, .inl (kB, N, .inl f))] sz) [(r, .inl (kB, N, .inl g))]) (va_A [(r, .inl (kB, N, .inl f))] sz)) 0 0 (va_A [(r, .inl (kB, N, .inl f))] sz) := by
  refine Met.ofW (cc := cJ7_fill_031fb) (maxL := 4) (ret := none) (by decide) rfl ?_
  intro p e s m args below meth c s₁ B hml hv
  obtain ⟨rfl, hsz, hP, hK, hD0⟩ := hv
  have hx := B.exec
  have hb := B.bytes
  have hr := B.returns
  have hts := atoms_spec (ws := wp_c_fillBw) B.pre
  have hown : s.vm.findClass RJ7 = some m.cls := findClass_of_methodNamed B.named
  have hlocks := B.notSynchronized
  subst hsz
  have hD := hD0.self (sz := s.heap.size)
  generalize hAe : va_A [(r, .inl (kB, N, .inl f))] s.heap.size = A at hD ⊢
  have hA : ∀ q : Nat, s.heap.size ≤ q → A q := fun q h => by rw [← hAe]; exact Or.inr h
  have hS : va_S A s.heap s.heap [] := va_S.rf
  have hP : va_P (dC, dI) vwCl [(r, .inl (kB, N, .inl f))] s.heap := hP
  have hl := lv_entry ([.ref r, .int v]) (n := 4) (Nat.le_of_ble_eq_true rfl)
  rw [lg_entry_eq]
  generalize (lg_sl ([.ref r, .int v]) ++ List.replicate (4 - (lg_sl ([.ref r, .int v])).length) Slot.unset).toArray = ls at hl ⊢
  have hl : lv_has ls 4 [(0, .ref r), (1, .int v)] := hl
  refine lv_iconst (v := 0) hx hb dJ7_fill_031fb_0 (by decide) ?_
  refine lv_istore_n (lv' := [(2, .int 0), (0, .ref r), (1, .int v)]) hx hb dJ7_fill_031fb_1 rfl hl (by decide) rfl (fun ls hl => ?_)
  refine lv_aload_n hx hb dJ7_fill_031fb_2 rfl (lv_at hl 1 rfl) ?_
  refine va_alen (v := nI N) hx hb hK hP 0 0 rfl rfl rfl dJ7_fill_031fb_3 ?_
  refine lv_istore_n (lv' := [(3, .int (nI N)), (2, .int 0), (0, .ref r), (1, .int v)]) hx hb dJ7_fill_031fb_4 rfl hl (by decide) rfl (fun ls hl => ?_)
  have hl : lv_has ls 4 [(3, .int (nI N)), (2, .int (nI 0)), (0, .ref r), (1, .int v)] := hl
  refine W_q (fun Q1 hQ1 => ?_)
  have key1 : ∀ (n1 : Nat) (i : Nat) (g1 : Nat → Int32) (H : Heap) (locs : List Loc) (ls : Array Slot), (i + n1 = N + 1 ∧ i ≤ N ∧ 0 ≤ i) → (flI 0 i (vp_nar .byte v) f g1) → va_P (dC, dI) vwCl [(r, .inl (kB, N, .inl g1))] H → va_D A [(r, .inl (kB, N, .inl g1))] → va_S A s.heap H locs → lv_has ls 4 [(3, .int (nI N)), (2, .int (nI i)), (0, .ref r), (1, .int v)] → W p l e (headSpec wp_c_fillBw ({ frames := 0, cells := 0, slots := 0, locals := 0 })).room s m ([.ref r, .int v] : List Value).toArray below meth c H locs 0 0 Q1 (F0 m 5 ls []) := by
    intro n1
    induction n1 with
    | zero => intro i g1 H locs ls hb0 hb1; exact absurd hb0 (by omega)
    | succ n1 ih1 =>
      intro i g1 H locs ls hb0 hb1 hP hD hS hl
      refine lv_iload_n hx hb dJ7_fill_031fb_5 rfl (lv_at hl 1 rfl) ?_
      refine lv_iload_n hx hb dJ7_fill_031fb_6 rfl (lv_at hl 0 rfl) ?_
      refine lv_icmp_ge (tgt := 20) hx hb dJ7_fill_031fb_7 (by decide) (fun hc => ?_) (fun hc => ?_)
      · have hi : i = N := by have := (nI_leI (a := N) (b := i) (by omega) (by omega)).mp hc; omega
        have hP9 := hP.sub (ws' := [(r, .inl (kB, N, .inl g1))]) [0] rfl
        have hD9 := hD.sub (ws' := [(r, .inl (kB, N, .inl g1))]) [0] (by decide) rfl
        have hK9 := hK.sub (tys' := [(kB, .byte)]) [0] rfl
        subst hQ1
        exact W.vret hx hb hr (fun tS ht hW => ⟨⟨(), rfl, trivial, g1, by rw [← hi]; exact hb1, by rw [ht]; exact hP9, va_K.moved hW.alike hK9, hD9⟩, hS.F ht⟩) hS.2.2 dJ7_fill_031fb_20
      · have hi : i < N := by rcases Nat.lt_or_ge i N with z | z; exact z; exact absurd (nI_le z (by omega)) hc
        refine lv_aload_n hx hb dJ7_fill_031fb_10 rfl (lv_at hl 2 rfl) ?_
        refine lv_iload_n hx hb dJ7_fill_031fb_11 rfl (lv_at hl 1 rfl) ?_
        refine lv_iload_n hx hb dJ7_fill_031fb_12 rfl (lv_at hl 3 rfl) ?_
        refine va_bast hx hb hK hP hD hS 0 0 rfl rfl (vp_in_nI (by omega) (by omega)) dJ7_fill_031fb_13 (fun H locs hP hD hS => ?_)
        have hP : va_P (dC, dI) vwCl [(r, .inl (kB, N, .inl (upd g1 (nI i : Int32).toNatClampNeg (vp_nar .byte v))))] H := hP
        have hD : va_D A [(r, .inl (kB, N, .inl (upd g1 (nI i : Int32).toNatClampNeg (vp_nar .byte v))))] := hD
        obtain ⟨g2, eg2⟩ : ∃ zZ : Nat → Int32, zZ = upd g1 (nI i : Int32).toNatClampNeg (vp_nar .byte v) := ⟨_, rfl⟩
        rw [← eg2] at hP hD
        have hg2 : flI 0 (i + 1) (vp_nar .byte v) f g2 := by rw [eg2, nI_clamp (by omega)]; exact flI_step hb1 (by omega)
        obtain ⟨x_1, ex_1⟩ : ∃ yY : Int32, yY = (nI i) + 1 := ⟨_, rfl⟩
        refine lv_iinc (v := x_1) (lv' := [(2, .int x_1), (3, .int (nI N)), (0, .ref r), (1, .int v)]) hx hb dJ7_fill_031fb_14 hl (k := 1) rfl (by rw [ex_1]; rfl) (by decide) rfl (fun ls hl => ?_)
        obtain rfl : x_1 = nI (i + 1) := by rw [ex_1]; exact nI_1 i
        have hl : lv_has ls 4 [(2, .int (nI (i + 1))), (3, .int (nI N)), (0, .ref r), (1, .int v)] := hl
        refine lv_goto (tgt := 5) hx hb dJ7_fill_031fb_17 (by decide) ?_
        exact ih1 (i + 1) g2 _ _ _ (by omega) hg2 (hP.sub [0] rfl) (hD.sub [0] (by decide) rfl) hS (lv_sub hl [1, 0, 2, 3] rfl)
  exact key1 (N + 1 - 0) 0 f _ _ _ (by omega) (fun j => ⟨fun h => absurd h (by omega), fun _ => rfl⟩) (hP.sub [0] rfl) (hD.sub [0] (by decide) rfl) hS (lv_sub hl [0, 1, 2, 3] rfl)
