def wf_c_rwl : List Cond := [.code yX23_wordLength cX23_wordLength 3 (some .int)]
def wp_c_rwl : List Cond := wf_c_rwl ++ []
theorem wg_c_rwl : wf_c_rwl.all goodWord = true := by decide +kernel
theorem wm_c_rwl (k : Nat) {w : Cond} (h : wp_c_rwl[k]? = some w) : w ∈ wp_c_rwl := List.mem_of_getElem? h
set_option maxHeartbeats 4000000 in
set_option maxRecDepth 100000 in
theorem c_rwl (l : Launch) (dC : Nat → ClassId) (dI : Nat → Nat → Nat) (x : Int64) (N : Nat) (sz : Nat) (hN : wlW x N) : Met l yX23_wordLength wp_c_rwl ({ frames := 0, cells := 0, slots := 0, locals := 0 }) (va_Pc [.long x] (fun U => U.heap.size = sz ∧ va_P (dC, dI) vwCl [] U.heap ∧ va_K (dC, dI) vwCl [] U ∧ va_D (fun _ => True) [])) (va_Qi (fun (r : Int32) (_ : Unit) => r = nI N) (fun (_ : Unit) (tS : State) => va_P (dC, dI) vwCl [] tS.heap ∧ va_K (dC, dI) vwCl [] tS ∧ va_D (va_A [] sz) []) (va_A [] sz)) 0 0 (va_A [] sz) := by
  refine Met.ofW (cc := cX23_wordLength) (maxL := 3) (ret := (some .int)) (by decide) rfl ?_
  intro p e s m args below meth c s₁ B hml hv
  obtain ⟨rfl, hsz, hP, hK, hD0⟩ := hv
  have hx := B.exec
  have hb := B.bytes
  have hr := B.returns
  have hts := atoms_spec (ws := wp_c_rwl) B.pre
  have hown : s.vm.findClass RX23 = some m.cls := findClass_of_methodNamed B.named
  have hlocks := B.notSynchronized
  subst hsz
  have hD := hD0.self (sz := s.heap.size)
  generalize hAe : va_A [] s.heap.size = A at hD ⊢
  have hA : ∀ q : Nat, s.heap.size ≤ q → A q := fun q h => by rw [← hAe]; exact Or.inr h
  have hS : va_S A s.heap s.heap [] := va_S.rf
  have hP : va_P (dC, dI) vwCl [] s.heap := hP
  have hl := lv_entry ([.long x]) (n := 3) (Nat.le_of_ble_eq_true rfl)
  rw [lg_entry_eq]
  generalize (lg_sl ([.long x]) ++ List.replicate (3 - (lg_sl ([.long x])).length) Slot.unset).toArray = ls at hl ⊢
  have hl : lv_has ls 3 [(0, .long x)] := hl
  refine lv_iconst (v := 0) hx hb dX23_wordLength_0 (by decide) ?_
  refine lv_istore_n (lv' := [(2, .int 0), (0, .long x)]) hx hb dX23_wordLength_1 rfl hl (by decide) rfl (fun ls hl => ?_)
  refine W_q (fun Q1 hQ1 => ?_)
  have key1 : ∀ (n1 : Nat) (i : Nat) (H : Heap) (locs : List Loc) (ls : Array Slot), (i + n1 = N + 1 ∧ i ≤ N) → va_P (dC, dI) vwCl [] H → va_D A [] → va_S A s.heap H locs → lv_has ls 3 [(2, .int (nI i)), (0, .long x)] → W p l e (headSpec wp_c_rwl ({ frames := 0, cells := 0, slots := 0, locals := 0 })).room s m ([.long x] : List Value).toArray below meth c H locs 0 0 Q1 (F0 m 2 ls []) := by
    intro n1
    induction n1 with
    | zero => intro i H locs ls hb0; exact absurd hb0 (by omega)
    | succ n1 ih1 =>
      intro i H locs ls hb0 hP hD hS hl
      refine lv_lload_n hx hb dX23_wordLength_2 rfl (lv_at hl 1 rfl) ?_
      refine lv_bipush (v := 8) hx hb dX23_wordLength_3 (by decide) ?_
      refine lv_iload_n hx hb dX23_wordLength_5 rfl (lv_at hl 0 rfl) ?_
      refine lv_imul hx hb dX23_wordLength_6 ?_
      refine lv_topi (fun f_1 ef_1 => ?_)
      subst ef_1
      obtain ⟨f_2, ef_2⟩ : ∃ yY : Int64, yY = ((x : Int64).toUInt64 >>> ((8 * nI i : Int32).toInt64.toUInt64 &&& Int64.toUInt64 63)).toInt64 := ⟨_, rfl⟩
      refine lv_lushr (v := f_2) hx hb dX23_wordLength_7 ef_2.symm ?_
      have hg : f_2 = shW x i := ef_2
      refine lv_lconst (v := 0) hx hb dX23_wordLength_8 (by decide) ?_
      refine W.lcmp hx hb dX23_wordLength_9 ?_
      refine lv_topi (fun f_3 ef_3 => ?_)
      refine lv_if_eq (tgt := 19) hx hb dX23_wordLength_10 (by decide) (fun hc => ?_) (fun hc => ?_)
      · have hN6 := hN.1
        have hz : shW x i = 0 := by rw [← hg]; exact (lg_cmp_eq _ _).mp (ef_3.symm.trans hc)
        obtain rfl : i = N := by rcases Nat.lt_or_ge i N with z9 | z9; exact absurd hz (hN.2.1 i z9); omega
        refine lv_iload_n hx hb dX23_wordLength_19 rfl (lv_at hl 0 rfl) ?_
        have hP9 := hP.sub (ws' := []) [] rfl
        have hD9 := hD.sub (ws' := []) [] (by decide) rfl
        have hK9 := hK.sub (tys' := []) [] rfl
        subst hQ1
        exact W.iret (v := nI i) hx hb hr (fun tS ht hW => ⟨⟨(nI i), (), rfl, rfl, by rw [ht]; exact hP9, va_K.moved hW.alike hK9, hD9⟩, hS.F ht⟩) hS.2.2 dX23_wordLength_20
      · have hz : ¬ shW x i = 0 := fun q => hc (ef_3.trans ((lg_cmp_eq _ _).mpr (hg.trans q)))
        have hlt : i < N := by rcases Nat.lt_or_ge i N with z9 | z9; exact z9; exact absurd (by rw [show i = N by omega]; exact hN.2.2) hz
        have hN6 := hN.1
        obtain ⟨x_4, ex_4⟩ : ∃ yY : Int32, yY = (nI i) + 1 := ⟨_, rfl⟩
        refine lv_iinc (v := x_4) (lv' := [(2, .int x_4), (0, .long x)]) hx hb dX23_wordLength_13 hl (k := 0) rfl (by rw [ex_4]; rfl) (by decide) rfl (fun ls hl => ?_)
        obtain rfl : x_4 = nI (i + 1) := by rw [ex_4]; exact nI_1 i
        have hl : lv_has ls 3 [(2, .int (nI (i + 1))), (0, .long x)] := hl
        refine lv_goto (tgt := 2) hx hb dX23_wordLength_16 (by decide) ?_
        exact ih1 (i + 1) _ _ _ (by omega) (hP.sub [] rfl) (hD.sub [] (by decide) rfl) hS (lv_sub hl [0, 1] rfl)
  exact key1 (N + 1) 0 _ _ _ (by omega) (hP.sub [] rfl) (hD.sub [] (by decide) rfl) hS (lv_sub hl [0, 1] rfl)
