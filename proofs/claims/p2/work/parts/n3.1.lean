/-- the script, as a callee sees it -/
def lxS (b L : Nat) (xs : Nat → Int32) (A : Nat → Prop) (U : State) (H : Heap) : Prop := va_X b L xs U H ∧ b < H.size ∧ ¬ A b
theorem lxS.moved {b L : Nat} {xs : Nat → Int32} {A : Nat → Prop} {u U : State} {H : Heap} (hvm : u.vm.Alike U.vm) (h : lxS b L xs A u H) : lxS b L xs A U H := ⟨h.1.moved hvm, h.2⟩
theorem lxS.narrow {b L : Nat} {xs : Nat → Int32} {A B : Nat → Prop} {U : State} {H : Heap} (h : lxS b L xs A U H) (hAB : ∀ q, B q → A q) : lxS b L xs B U H := ⟨h.1, h.2.1, fun q => h.2.2 (hAB _ q)⟩
theorem lxS.at {b L : Nat} {xs : Nat → Int32} {A : Nat → Prop} {U : State} {H H1 : Heap} {locs : List Loc} (h : lxS b L xs A U H) (hS : va_S A H H1 locs) : lxS b L xs A U H1 := ⟨h.1.kept (hS.2.1 b h.2.1 h.2.2), Nat.lt_of_lt_of_le h.2.1 hS.1, h.2.2⟩
def wf_c_cell : List Cond := [.code yL_cell cL_cell 2 (some .int)]
def wp_c_cell : List Cond := wf_c_cell ++ []
theorem wg_c_cell : wf_c_cell.all goodWord = true := by decide +kernel
theorem wm_c_cell (k : Nat) {w : Cond} (h : wp_c_cell[k]? = some w) : w ∈ wp_c_cell := List.mem_of_getElem? h
set_option maxHeartbeats 4000000 in
set_option maxRecDepth 100000 in
theorem c_cell (l : Launch) (dC : Nat → ClassId) (dI : Nat → Nat → Nat) (b L : Nat) (xs : Nat → Int32) (sz : Nat) (hL : L ≤ 385) : Met l yL_cell wp_c_cell ({ frames := 0, cells := 0, slots := 0, locals := 0 }) (va_Pc [.ref b, .int 0] (fun U => U.heap.size = sz ∧ va_P (dC, dI) vwCl [] U.heap ∧ va_K (dC, dI) vwCl [] U ∧ va_D (fun _ => True) [] ∧ lxS b L xs (va_A [] sz) U U.heap)) (va_Qi (fun (_ : Int32) (_ : Unit) => True) (fun (_ : Unit) (tS : State) => va_P (dC, dI) vwCl [] tS.heap ∧ va_K (dC, dI) vwCl [] tS ∧ va_D (va_A [] sz) []) (va_A [] sz)) 0 0 (va_A [] sz) := by
  refine Met.ofW (cc := cL_cell) (maxL := 2) (ret := (some .int)) (by decide) rfl ?_
  intro p e s m args below meth c s₁ B hml hv
  obtain ⟨rfl, hsz, hP, hK, hD0, hpre0⟩ := hv
  have hx := B.exec
  have hb := B.bytes
  have hr := B.returns
  have hts := atoms_spec (ws := wp_c_cell) B.pre
  have hown : s.vm.findClass RL = some m.cls := findClass_of_methodNamed B.named
  have hlocks := B.notSynchronized
  subst hsz
  have hD := hD0.self (sz := s.heap.size)
  generalize hAe : va_A [] s.heap.size = A at hD hpre0 ⊢
  have hA : ∀ q : Nat, s.heap.size ≤ q → A q := fun q h => by rw [← hAe]; exact Or.inr h
  have hS : va_S A s.heap s.heap [] := va_S.rf
  have hP : va_P (dC, dI) vwCl [] s.heap := hP
  have hl := lv_entry ([.ref b, .int 0]) (n := 2) (Nat.le_of_ble_eq_true rfl)
  rw [lg_entry_eq]
  generalize (lg_sl ([.ref b, .int 0]) ++ List.replicate (2 - (lg_sl ([.ref b, .int 0])).length) Slot.unset).toArray = ls at hl ⊢
  have hl : lv_has ls 2 [(0, .ref b), (1, .int 0)] := hl
  refine lv_iload_n hx hb dL_cell_0 rfl (lv_at hl 1 rfl) ?_
  refine lv_aload_n hx hb dL_cell_1 rfl (lv_at hl 0 rfl) ?_
  refine va_slen hx hb hpre0.1 hpre0.2.1 hpre0.2.2 hS dL_cell_2 ?_
  refine W.eq (g2 := F0 m 3 ls [.int (nI L), .int 0]) rfl ?_
  refine lv_icmp_ge (tgt := 12) hx hb dL_cell_3 (by decide) (fun hc => ?_) (fun hc => ?_)
  · refine lv_iconst (v := 0) hx hb dL_cell_12 (by decide) ?_
    have hP9 := hP.sub (ws' := []) [] rfl
    have hD9 := hD.sub (ws' := []) [] (by decide) rfl
    have hK9 := hK.sub (tys' := []) [] rfl
    exact W.iret (v := 0) hx hb hr (fun tS ht hW => ⟨⟨0, (), rfl, trivial, by rw [ht]; exact hP9, va_K.moved hW.alike hK9, hD9⟩, hS.F ht⟩) hS.2.2 dL_cell_13
  · have h0 : 0 < L := by rcases Nat.eq_zero_or_pos L with q | q; subst q; exact absurd (by decide) hc; exact q
    refine lv_aload_n hx hb dL_cell_6 rfl (lv_at hl 0 rfl) ?_
    refine lv_iload_n hx hb dL_cell_7 rfl (lv_at hl 1 rfl) ?_
    refine va_sld hx hb hpre0.1 hpre0.2.1 hpre0.2.2 hS (show vp_in 0 L from vp_in_nI (n := 0) h0 (by omega)) dL_cell_8 ?_
    refine lv_topi (fun f_1 ef_1 => ?_)
    refine lv_goto (tgt := 13) hx hb dL_cell_9 (by decide) ?_
    have hP9 := hP.sub (ws' := []) [] rfl
    have hD9 := hD.sub (ws' := []) [] (by decide) rfl
    have hK9 := hK.sub (tys' := []) [] rfl
    exact W.iret (v := f_1) hx hb hr (fun tS ht hW => ⟨⟨f_1, (), rfl, trivial, by rw [ht]; exact hP9, va_K.moved hW.alike hK9, hD9⟩, hS.F ht⟩) hS.2.2 dL_cell_13
