def wf_c_nV : List Cond := [.code yX21_init cX21_init 1 none, .methodLink RX21 1 objectInit, .instanceMethod objectInit, .code objectInit ⟨#[0xb1]⟩ 1 none]
def wp_c_nV : List Cond := wf_c_nV ++ []
theorem wg_c_nV : wf_c_nV.all goodWord = true := by decide +kernel
theorem wm_c_nV (k : Nat) {w : Cond} (h : wp_c_nV[k]? = some w) : w ∈ wp_c_nV := List.mem_of_getElem? h
set_option maxHeartbeats 4000000 in
set_option maxRecDepth 100000 in
theorem c_nV (l : Launch) (dC : Nat → ClassId) (dI : Nat → Nat → Nat) (q : Nat) (sz : Nat) : Met l yX21_init wp_c_nV ({ frames := 1, cells := 0, slots := 0, locals := 12 }) (va_Pc [.ref q] (fun U => U.heap.size = sz ∧ va_P (dC, dI) vwCl [(q, .inr (21, [.int 0, .int 0, .null, .int 0, .null]))] U.heap ∧ va_K (dC, dI) vwCl [] U ∧ va_D (fun _ => True) [(q, .inr (21, [.int 0, .int 0, .null, .int 0, .null]))])) (va_Qv (fun _ : Unit => True) (fun (_ : Unit) (tS : State) => va_P (dC, dI) vwCl [(q, .inr (21, [.int 0, .int 0, .null, .int 0, .null]))] tS.heap ∧ va_K (dC, dI) vwCl [] tS ∧ va_D (va_A [(q, .inr (21, [.int 0, .int 0, .null, .int 0, .null]))] sz) [(q, .inr (21, [.int 0, .int 0, .null, .int 0, .null]))]) (va_A [(q, .inr (21, [.int 0, .int 0, .null, .int 0, .null]))] sz)) 0 0 (va_A [(q, .inr (21, [.int 0, .int 0, .null, .int 0, .null]))] sz) := by
  refine Met.ofW (cc := cX21_init) (maxL := 1) (ret := none) (by decide) rfl ?_
  intro p e s m args below meth c s₁ B hml hv
  obtain ⟨rfl, hsz, hP, hK, hD0⟩ := hv
  have hx := B.exec
  have hb := B.bytes
  have hr := B.returns
  have hts := atoms_spec (ws := wp_c_nV) B.pre
  have hown : s.vm.findClass RX21 = some m.cls := findClass_of_methodNamed B.named
  have hlocks := B.notSynchronized
  have hin : meth.name = "<init>" := (name_of_methodNamed B.named B.method).1
  subst hsz
  have hD := hD0.self (sz := s.heap.size)
  generalize hAe : va_A [(q, .inr (21, [.int 0, .int 0, .null, .int 0, .null]))] s.heap.size = A at hD ⊢
  have hA : ∀ q : Nat, s.heap.size ≤ q → A q := fun q h => by rw [← hAe]; exact Or.inr h
  have hS : va_S A s.heap s.heap [] := va_S.rf
  have hP : va_P (dC, dI) vwCl [(q, .inr (21, [.int 0, .int 0, .null, .int 0, .null]))] s.heap := hP
  have hl := lv_entry ([.ref q]) (n := 1) (Nat.le_of_ble_eq_true rfl)
  rw [lg_entry_eq]
  generalize (lg_sl ([.ref q]) ++ List.replicate (1 - (lg_sl ([.ref q])).length) Slot.unset).toArray = ls at hl ⊢
  have hl : lv_has ls 1 [(0, .ref q)] := hl
  refine lv_aload_n hx hb dX21_init_0 rfl (lv_at hl 0 rfl) ?_
  refine W.objInit hx hb hown (hts (.methodLink RX21 1 objectInit) (wm_c_nV 1 rfl)) (hts (.instanceMethod objectInit) (wm_c_nV 2 rfl)) (hts (.code objectInit ⟨#[0xb1]⟩ 1 none) (wm_c_nV 3 rfl)) rfl (by rw [hml]; exact hl.1) rfl dX21_init_1 (Nat.le_of_ble_eq_true rfl) (Nat.le_of_ble_eq_true rfl) ?_
  refine W.eq (g2 := F0 m 4 ls []) rfl ?_
  have hP9 := hP.sub (ws' := [(q, .inr (21, [.int 0, .int 0, .null, .int 0, .null]))]) [0] rfl
  have hD9 := hD.sub (ws' := [(q, .inr (21, [.int 0, .int 0, .null, .int 0, .null]))]) [0] (by decide) rfl
  have hK9 := hK.sub (tys' := []) [] rfl
  exact W.vret hx hb hr (fun tS ht hW => ⟨⟨(), rfl, trivial, by rw [ht]; exact hP9, va_K.moved hW.alike hK9, hD9⟩, hS.F ht⟩) hS.2.2 dX21_init_4
