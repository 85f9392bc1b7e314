def wf_c_range : List Cond := [.code yJ7_rangeCheck_23922 cJ7_rangeCheck_23922 3 none]
def wp_c_range : List Cond := wf_c_range ++ []
theorem wg_c_range : wf_c_range.all goodWord = true := by decide +kernel
theorem wm_c_range (k : Nat) {w : Cond} (h : wp_c_range[k]? = some w) : w ∈ wp_c_range := List.mem_of_getElem? h
set_option maxHeartbeats 4000000 in
set_option maxRecDepth 100000 in
theorem c_range (l : Launch) (dC : Nat → ClassId) (dI : Nat → Nat → Nat) (N a b : Nat) (sz : Nat) (hab : a ≤ b) (hbN : b ≤ N) (hN : N < 2 ^ 30) : Met l yJ7_rangeCheck_23922 wp_c_range ({ frames := 0, cells := 0, slots := 0, locals := 0 }) (va_Pc [.int (nI N), .int (nI a), .int (nI b)] (fun U => U.heap.size = sz ∧ va_P (dC, dI) vwCl [] U.heap ∧ va_K (dC, dI) vwCl [] U ∧ va_D (fun _ => True) [])) (va_Qv (fun _ : Unit => True) (fun (_ : Unit) (tS : State) => va_P (dC, dI) vwCl [] tS.heap ∧ va_K (dC, dI) vwCl [] tS ∧ va_D (va_A [] sz) []) (va_A [] sz)) 0 0 (va_A [] sz) := by
  refine Met.ofW (cc := cJ7_rangeCheck_23922) (maxL := 3) (ret := none) (by decide) rfl ?_
  intro p e s m args below meth c s₁ B hml hv
  obtain ⟨rfl, hsz, hP, hK, hD0⟩ := hv
  have hx := B.exec
  have hb := B.bytes
  have hr := B.returns
  have hts := atoms_spec (ws := wp_c_range) B.pre
  have hown : s.vm.findClass RJ7 = some m.cls := findClass_of_methodNamed B.named
  have hlocks := B.notSynchronized
  subst hsz
  have hD := hD0.self (sz := s.heap.size)
  generalize hAe : va_A [] s.heap.size = A at hD ⊢
  have hA : ∀ q : Nat, s.heap.size ≤ q → A q := fun q h => by rw [← hAe]; exact Or.inr h
  have hS : va_S A s.heap s.heap [] := va_S.rf
  have hP : va_P (dC, dI) vwCl [] s.heap := hP
  have hl := lv_entry ([.int (nI N), .int (nI a), .int (nI b)]) (n := 3) (Nat.le_of_ble_eq_true rfl)
  rw [lg_entry_eq]
  generalize (lg_sl ([.int (nI N), .int (nI a), .int (nI b)]) ++ List.replicate (3 - (lg_sl ([.int (nI N), .int (nI a), .int (nI b)])).length) Slot.unset).toArray = ls at hl ⊢
  have hl : lv_has ls 3 [(0, .int (nI N)), (1, .int (nI a)), (2, .int (nI b))] := hl
  refine lv_iload_n hx hb dJ7_rangeCheck_23922_0 rfl (lv_at hl 1 rfl) ?_
  refine lv_iload_n hx hb dJ7_rangeCheck_23922_1 rfl (lv_at hl 2 rfl) ?_
  refine lv_icmp_le (tgt := 46) hx hb dJ7_rangeCheck_23922_2 (by decide) (fun _ => ?_) (fun c_1 => absurd (nI_le hab (by omega)) c_1)
  refine lv_iload_n hx hb dJ7_rangeCheck_23922_46 rfl (lv_at hl 1 rfl) ?_
  refine lv_if_ge (tgt := 59) hx hb dJ7_rangeCheck_23922_47 (by decide) (fun _ => ?_) (fun c_2 => absurd (nI_pos' (by omega)) c_2)
  refine lv_iload_n hx hb dJ7_rangeCheck_23922_59 rfl (lv_at hl 2 rfl) ?_
  refine lv_iload_n hx hb dJ7_rangeCheck_23922_60 rfl (lv_at hl 0 rfl) ?_
  refine lv_icmp_le (tgt := 73) hx hb dJ7_rangeCheck_23922_61 (by decide) (fun _ => ?_) (fun c_3 => absurd (nI_le hbN (by omega)) c_3)
  have hP9 := hP.sub (ws' := []) [] rfl
  have hD9 := hD.sub (ws' := []) [] (by decide) rfl
  have hK9 := hK.sub (tys' := []) [] rfl
  exact W.vret hx hb hr (fun tS ht hW => ⟨⟨(), rfl, trivial, by rw [ht]; exact hP9, va_K.moved hW.alike hK9, hD9⟩, hS.F ht⟩) hS.2.2 dJ7_rangeCheck_23922_73
/-- from a to b all are x, the others as they were -/
def flI (a b : Nat) (x : Int32) (f g : Nat → Int32) : Prop := ∀ j, (a ≤ j ∧ j < b → g j = x) ∧ (¬ (a ≤ j ∧ j < b) → g j = f j)
def flL (a b : Nat) (x : Int64) (f g : Nat → Int64) : Prop := ∀ j, (a ≤ j ∧ j < b → g j = x) ∧ (¬ (a ≤ j ∧ j < b) → g j = f j)
theorem flI_step {a b : Nat} {x : Int32} {f g : Nat → Int32} (h : flI a b x f g) (hab : a ≤ b) : flI a (b + 1) x f (upd g b x) := by
  intro j
  by_cases e : j = b
  · subst e; rw [pk_us]; exact ⟨fun _ => rfl, fun q => absurd ⟨by omega, by omega⟩ q⟩
  · rw [pk_un e]; exact ⟨fun q => (h j).1 ⟨q.1, by omega⟩, fun q => (h j).2 (fun z => q ⟨z.1, by omega⟩)⟩
theorem flL_step {a b : Nat} {x : Int64} {f g : Nat → Int64} (h : flL a b x f g) (hab : a ≤ b) : flL a (b + 1) x f (vp_updL g b x) := by
  intro j
  by_cases e : j = b
  · subst e; rw [pk_uLs]; exact ⟨fun _ => rfl, fun q => absurd ⟨by omega, by omega⟩ q⟩
  · rw [pk_uLn e]; exact ⟨fun q => (h j).1 ⟨q.1, by omega⟩, fun q => (h j).2 (fun z => q ⟨z.1, by omega⟩)⟩
def wf_c_fillIp : List Cond := [.code yJ7_fill_fda19 cJ7_fill_fda19 5 none, .code yJ7_rangeCheck_23922 cJ7_rangeCheck_23922 3 none, .methodLink RJ7 13 yJ7_rangeCheck_23922, .static yJ7_rangeCheck_23922, .initialized RJ7]
def wp_c_fillIp : List Cond := wf_c_fillIp ++ []
theorem wg_c_fillIp : wf_c_fillIp.all goodWord = true := by decide +kernel
theorem wm_c_fillIp (k : Nat) {w : Cond} (h : wp_c_fillIp[k]? = some w) : w ∈ wp_c_fillIp := List.mem_of_getElem? h
set_option maxRecDepth 20000 in
theorem g_c_fillIp_c_range_4 : GoodIn wp_c_fillIp (va_wsS RJ7 13 yJ7_rangeCheck_23922 wp_c_range) := goodIn_app (goodIn_f [.methodLink RJ7 13 yJ7_rangeCheck_23922, .static yJ7_rangeCheck_23922, .initialized RJ7] [2, 3, 4] rfl (by decide +kernel)) (goodIn_app (goodIn_f (wf_c_range) [1] rfl wg_c_range) (goodIn_n))
set_option maxHeartbeats 4000000 in
set_option maxRecDepth 100000 in
theorem c_fillIp (l : Launch) (dC : Nat → ClassId) (dI : Nat → Nat → Nat) (r N a b : Nat) (kI : ClassId) (f : Nat → Int32) (v : Int32) (sz : Nat) (hab : a ≤ b) (hbN : b ≤ N) (hN : N < 2 ^ 30) : Met l yJ7_fill_fda19 wp_c_fillIp ({ frames := 1, cells := 0, slots := 0, locals := 22 }) (va_Pc [.ref r, .int (nI a), .int (nI b), .int v] (fun U => U.heap.size = sz ∧ va_P (dC, dI) vwCl [(r, .inl (kI, N, .inl f))] U.heap ∧ va_K (dC, dI) vwCl [(kI, .int)] U ∧ va_D (fun _ => True) [(r, .inl (kI, N, .inl f))])) (va_Qv (fun _ : Unit => True) (fun (_ : Unit) (tS : State) => ∃ (g : Nat → Int32), (flI a b v f g) ∧ va_P (dC, dI) vwCl [(r, .inl (kI, N, .inl g))] tS.heap ∧ va_K (dC, dI) vwCl [(kI, .int)] tS ∧ va_D (va_A [(r, .inl (kI, N, .inl f))] sz) [(r, .inl (kI, N, .inl g))]) (va_A [(r, .inl (kI, N, .inl f))] sz)) 0 0 (va_A [(r, .inl (kI, N, .inl f))] sz) := by
  refine Met.ofW (cc := cJ7_fill_fda19) (maxL := 5) (ret := none) (by decide) rfl ?_
  intro p e s m args below meth c s₁ B hml hv
  obtain ⟨rfl, hsz, hP, hK, hD0⟩ := hv
  have hx := B.exec
  have hb := B.bytes
  have hr := B.returns
  have hts := atoms_spec (ws := wp_c_fillIp) B.pre
  have hown : s.vm.findClass RJ7 = some m.cls := findClass_of_methodNamed B.named
  have hlocks := B.notSynchronized
  subst hsz
  have hD := hD0.self (sz := s.heap.size)
  generalize hAe : va_A [(r, .inl (kI, N, .inl f))] s.heap.size = A at hD ⊢
  have hA : ∀ q : Nat, s.heap.size ≤ q → A q := fun q h => by rw [← hAe]; exact Or.inr h
  have hS : va_S A s.heap s.heap [] := va_S.rf
  have hP : va_P (dC, dI) vwCl [(r, .inl (kI, N, .inl f))] s.heap := hP
  have hl := lv_entry ([.ref r, .int (nI a), .int (nI b), .int v]) (n := 5) (Nat.le_of_ble_eq_true rfl)
  rw [lg_entry_eq]
  generalize (lg_sl ([.ref r, .int (nI a), .int (nI b), .int v]) ++ List.replicate (5 - (lg_sl ([.ref r, .int (nI a), .int (nI b), .int v])).length) Slot.unset).toArray = ls at hl ⊢
  have hl : lv_has ls 5 [(0, .ref r), (1, .int (nI a)), (2, .int (nI b)), (3, .int v)] := hl
  refine lv_aload_n hx hb dJ7_fill_fda19_0 rfl (lv_at hl 0 rfl) ?_
  refine va_alen (v := nI N) hx hb hK hP 0 0 rfl rfl rfl dJ7_fill_fda19_1 ?_
  refine lv_iload_n hx hb dJ7_fill_fda19_2 rfl (lv_at hl 1 rfl) ?_
  refine lv_iload_n hx hb dJ7_fill_fda19_3 rfl (lv_at hl 2 rfl) ?_
  have hPc := hP.sub (ws' := []) [] rfl
  have hDc := hD.sub (ws' := []) [] (by decide) rfl
  have hKc := hK.sub (tys' := []) [] rfl
  have hFc := va_free (wc := []) hD hS hA [] rfl
  refine va_callv (va_runS (As := [.int (nI N), .int (nI a), .int (nI b)]) (rest := []) ⟨hx, hb, hml, hown, hts⟩ (c_range l dC dI N a b s.heap.size hab hbN hN) (va_cwS 3 hts g_c_fillIp_c_range_4 rfl rfl rfl (by decide +kernel) ⟨Nat.le_of_ble_eq_true rfl, Nat.le_of_ble_eq_true rfl⟩) ⟨fun a U g mk q => by obtain ⟨q0, q1, qP, qK, qD⟩ := q; exact ⟨q0, q1, qP, va_K.moved (u := U) (U := U.calling g mk a) (Vm.Alike.refl U.vm) qK, qD⟩, fun U hU hW => ⟨rfl, by rw [hU], by rw [hU]; exact hPc, va_K.moved hW.alike hKc, hDc.weaken (fun _ _ _ _ => trivial)⟩⟩ rfl rfl hl.1 rfl (lv_room (Nat.le_of_ble_eq_true rfl)) dJ7_fill_fda19_4 ⟨(show 0 + 0 ≤ 0 by omega), (show 0 + 0 ≤ 0 by omega)⟩) hS (fun q _ h => hFc q h) hFc (fun u tS H1 locs ht hvm hw hB hz1 hk1 hS => ?_)
  obtain ⟨hP1, hK1, hD1⟩ := hB
  rw [ht] at hP1
  have hK1 := va_K.moved hvm.symm hK1
  obtain ⟨hP, hD⟩ := va_join (wr := [(r, .inl (kI, N, .inl f))]) (w1 := []) hP hD [] [0] rfl rfl (by decide) (by decide) hk1 hFc hP1 hD1
  generalize H1 = H at hP hS ⊢
  have hP : va_P (dC, dI) vwCl [(r, .inl (kI, N, .inl f))] H := hP
  have hD : va_D A [(r, .inl (kI, N, .inl f))] := hD
  have hK : va_K (dC, dI) vwCl [(kI, .int)] s := hK
  refine lv_iload_n hx hb dJ7_fill_fda19_7 rfl (lv_at hl 1 rfl) ?_
  refine lv_istore (lv' := [(4, .int (nI a)), (0, .ref r), (1, .int (nI a)), (2, .int (nI b)), (3, .int v)]) hx hb dJ7_fill_fda19_8 hl (by decide) rfl (fun ls hl => ?_)
  refine W_q (fun Q1 hQ1 => ?_)
  have key1 : ∀ (n1 : Nat) (i : Nat) (g1 : Nat → Int32) (H : Heap) (locs : List Loc) (ls : Array Slot), (i + n1 = b + 1 ∧ i ≤ b ∧ a ≤ i) → (flI a i v f g1) → va_P (dC, dI) vwCl [(r, .inl (kI, N, .inl g1))] H → va_D A [(r, .inl (kI, N, .inl g1))] → va_S A s.heap H locs → lv_has ls 5 [(4, .int (nI i)), (0, .ref r), (1, .int (nI a)), (2, .int (nI b)), (3, .int v)] → W p l e (headSpec wp_c_fillIp ({ frames := 1, cells := 0, slots := 0, locals := 22 })).room s m ([.ref r, .int (nI a), .int (nI b), .int v] : List Value).toArray below meth c H locs 0 0 Q1 (F0 m 10 ls []) := by
    intro n1
    induction n1 with
    | zero => intro i g1 H locs ls hb0 hb1; exact absurd hb0 (by omega)
    | succ n1 ih1 =>
      intro i g1 H locs ls hb0 hb1 hP hD hS hl
      refine lv_iload hx hb dJ7_fill_fda19_10 (lv_at hl 0 rfl) ?_
      refine lv_iload_n hx hb dJ7_fill_fda19_12 rfl (lv_at hl 3 rfl) ?_
      refine lv_icmp_ge (tgt := 27) hx hb dJ7_fill_fda19_13 (by decide) (fun hc => ?_) (fun hc => ?_)
      · have hi : i = b := by have := (nI_leI (a := b) (b := i) (by omega) (by omega)).mp hc; omega
        have hP9 := hP.sub (ws' := [(r, .inl (kI, N, .inl g1))]) [0] rfl
        have hD9 := hD.sub (ws' := [(r, .inl (kI, N, .inl g1))]) [0] (by decide) rfl
        have hK9 := hK.sub (tys' := [(kI, .int)]) [0] rfl
        subst hQ1
        exact W.vret hx hb hr (fun tS ht hW => ⟨⟨(), rfl, trivial, g1, by rw [← hi]; exact hb1, by rw [ht]; exact hP9, va_K.moved hW.alike hK9, hD9⟩, hS.F ht⟩) hS.2.2 dJ7_fill_fda19_27
      · have hi : i < b := by rcases Nat.lt_or_ge i b with z | z; exact z; exact absurd (nI_le z (by omega)) hc
        refine lv_aload_n hx hb dJ7_fill_fda19_16 rfl (lv_at hl 1 rfl) ?_
        refine lv_iload hx hb dJ7_fill_fda19_17 (lv_at hl 0 rfl) ?_
        refine lv_iload_n hx hb dJ7_fill_fda19_19 rfl (lv_at hl 4 rfl) ?_
        refine va_iast hx hb hK hP hD hS 0 0 rfl rfl (vp_in_nI (by omega) (by omega)) dJ7_fill_fda19_20 (fun H locs hP hD hS => ?_)
        have hP : va_P (dC, dI) vwCl [(r, .inl (kI, N, .inl (upd g1 (nI i : Int32).toNatClampNeg v)))] H := hP
        have hD : va_D A [(r, .inl (kI, N, .inl (upd g1 (nI i : Int32).toNatClampNeg v)))] := hD
        obtain ⟨g2, eg2⟩ : ∃ zZ : Nat → Int32, zZ = upd g1 (nI i : Int32).toNatClampNeg v := ⟨_, rfl⟩
        rw [← eg2] at hP hD
        have hg2 : flI a (i + 1) v f g2 := by rw [eg2, nI_clamp (by omega)]; exact flI_step hb1 (by omega)
        obtain ⟨x_2, ex_2⟩ : ∃ yY : Int32, yY = (nI i) + 1 := ⟨_, rfl⟩
        refine lv_iinc (v := x_2) (lv' := [(4, .int x_2), (0, .ref r), (1, .int (nI a)), (2, .int (nI b)), (3, .int v)]) hx hb dJ7_fill_fda19_21 hl (k := 0) rfl (by rw [ex_2]; rfl) (by decide) rfl (fun ls hl => ?_)
        obtain rfl : x_2 = nI (i + 1) := by rw [ex_2]; exact nI_1 i
        have hl : lv_has ls 5 [(4, .int (nI (i + 1))), (0, .ref r), (1, .int (nI a)), (2, .int (nI b)), (3, .int v)] := hl
        refine lv_goto (tgt := 10) hx hb dJ7_fill_fda19_24 (by decide) ?_
        exact ih1 (i + 1) g2 _ _ _ (by omega) hg2 (hP.sub [0] rfl) (hD.sub [0] (by decide) rfl) hS (lv_sub hl [0, 1, 2, 3, 4] rfl)
  exact key1 (b + 1 - a) a f _ _ _ (by omega) (fun j => ⟨fun h => absurd h (by omega), fun _ => rfl⟩) (hP.sub [0] rfl) (hD.sub [0] (by decide) rfl) hS (lv_sub hl [0, 1, 2, 3, 4] rfl)
def wf_c_fillLp : List Cond := [.code yJ7_fill_bad5a cJ7_fill_bad5a 6 none, .code yJ7_rangeCheck_23922 cJ7_rangeCheck_23922 3 none, .methodLink RJ7 13 yJ7_rangeCheck_23922, .static yJ7_rangeCheck_23922, .initialized RJ7]
def wp_c_fillLp : List Cond := wf_c_fillLp ++ []
theorem wg_c_fillLp : wf_c_fillLp.all goodWord = true := by decide +kernel
theorem wm_c_fillLp (k : Nat) {w : Cond} (h : wp_c_fillLp[k]? = some w) : w ∈ wp_c_fillLp := List.mem_of_getElem? h
set_option maxRecDepth 20000 in
theorem g_c_fillLp_c_range_4 : GoodIn wp_c_fillLp (va_wsS RJ7 13 yJ7_rangeCheck_23922 wp_c_range) := goodIn_app (goodIn_f [.methodLink RJ7 13 yJ7_rangeCheck_23922, .static yJ7_rangeCheck_23922, .initialized RJ7] [2, 3, 4] rfl (by decide +kernel)) (goodIn_app (goodIn_f (wf_c_range) [1] rfl wg_c_range) (goodIn_n))
set_option maxHeartbeats 4000000 in
set_option maxRecDepth 100000 in
theorem c_fillLp (l : Launch) (dC : Nat → ClassId) (dI : Nat → Nat → Nat) (r N a b : Nat) (kL : ClassId) (f : Nat → Int64) (v : Int64) (sz : Nat) (hab : a ≤ b) (hbN : b ≤ N) (hN : N < 2 ^ 30) : Met l yJ7_fill_bad5a wp_c_fillLp ({ frames := 1, cells := 0, slots := 0, locals := 22 }) (va_Pc [.ref r, .int (nI a), .int (nI b), .long v] (fun U => U.heap.size = sz ∧ va_P (dC, dI) vwCl [(r, .inl (kL, N, .inr (.inl f)))] U.heap ∧ va_K (dC, dI) vwCl [(kL, .long)] U ∧ va_D (fun _ => True) [(r, .inl (kL, N, .inr (.inl f)))])) (va_Qv (fun _ : Unit => True) (fun (_ : Unit) (tS : State) => ∃ (g : Nat → Int64), (flL a b v f g) ∧ va_P (dC, dI) vwCl [(r, .inl (kL, N, .inr (.inl g)))] tS.heap ∧ va_K (dC, dI) vwCl [(kL, .long)] tS ∧ va_D (va_A [(r, .inl (kL, N, .inr (.inl f)))] sz) [(r, .inl (kL, N, .inr (.inl g)))]) (va_A [(r, .inl (kL, N, .inr (.inl f)))] sz)) 0 0 (va_A [(r, .inl (kL, N, .inr (.inl f)))] sz) := by
  refine Met.ofW (cc := cJ7_fill_bad5a) (maxL := 6) (ret := none) (by decide) rfl ?_
  intro p e s m args below meth c s₁ B hml hv
  obtain ⟨rfl, hsz, hP, hK, hD0⟩ := hv
  have hx := B.exec
  have hb := B.bytes
  have hr := B.returns
  have hts := atoms_spec (ws := wp_c_fillLp) B.pre
  have hown : s.vm.findClass RJ7 = some m.cls := findClass_of_methodNamed B.named
  have hlocks := B.notSynchronized
  subst hsz
  have hD := hD0.self (sz := s.heap.size)
  generalize hAe : va_A [(r, .inl (kL, N, .inr (.inl f)))] s.heap.size = A at hD ⊢
  have hA : ∀ q : Nat, s.heap.size ≤ q → A q := fun q h => by rw [← hAe]; exact Or.inr h
  have hS : va_S A s.heap s.heap [] := va_S.rf
  have hP : va_P (dC, dI) vwCl [(r, .inl (kL, N, .inr (.inl f)))] s.heap := hP
  have hl := lv_entry ([.ref r, .int (nI a), .int (nI b), .long v]) (n := 6) (Nat.le_of_ble_eq_true rfl)
  rw [lg_entry_eq]
  generalize (lg_sl ([.ref r, .int (nI a), .int (nI b), .long v]) ++ List.replicate (6 - (lg_sl ([.ref r, .int (nI a), .int (nI b), .long v])).length) Slot.unset).toArray = ls at hl ⊢
  have hl : lv_has ls 6 [(0, .ref r), (1, .int (nI a)), (2, .int (nI b)), (3, .long v)] := hl
  refine lv_aload_n hx hb dJ7_fill_bad5a_0 rfl (lv_at hl 0 rfl) ?_
  refine va_alen (v := nI N) hx hb hK hP 0 0 rfl rfl rfl dJ7_fill_bad5a_1 ?_
  refine lv_iload_n hx hb dJ7_fill_bad5a_2 rfl (lv_at hl 1 rfl) ?_
  refine lv_iload_n hx hb dJ7_fill_bad5a_3 rfl (lv_at hl 2 rfl) ?_
  have hPc := hP.sub (ws' := []) [] rfl
  have hDc := hD.sub (ws' := []) [] (by decide) rfl
  have hKc := hK.sub (tys' := []) [] rfl
  have hFc := va_free (wc := []) hD hS hA [] rfl
  refine va_callv (va_runS (As := [.int (nI N), .int (nI a), .int (nI b)]) (rest := []) ⟨hx, hb, hml, hown, hts⟩ (c_range l dC dI N a b s.heap.size hab hbN hN) (va_cwS 3 hts g_c_fillLp_c_range_4 rfl rfl rfl (by decide +kernel) ⟨Nat.le_of_ble_eq_true rfl, Nat.le_of_ble_eq_true rfl⟩) ⟨fun a U g mk q => by obtain ⟨q0, q1, qP, qK, qD⟩ := q; exact ⟨q0, q1, qP, va_K.moved (u := U) (U := U.calling g mk a) (Vm.Alike.refl U.vm) qK, qD⟩, fun U hU hW => ⟨rfl, by rw [hU], by rw [hU]; exact hPc, va_K.moved hW.alike hKc, hDc.weaken (fun _ _ _ _ => trivial)⟩⟩ rfl rfl hl.1 rfl (lv_room (Nat.le_of_ble_eq_true rfl)) dJ7_fill_bad5a_4 ⟨(show 0 + 0 ≤ 0 by omega), (show 0 + 0 ≤ 0 by omega)⟩) hS (fun q _ h => hFc q h) hFc (fun u tS H1 locs ht hvm hw hB hz1 hk1 hS => ?_)
  obtain ⟨hP1, hK1, hD1⟩ := hB
  rw [ht] at hP1
  have hK1 := va_K.moved hvm.symm hK1
  obtain ⟨hP, hD⟩ := va_join (wr := [(r, .inl (kL, N, .inr (.inl f)))]) (w1 := []) hP hD [] [0] rfl rfl (by decide) (by decide) hk1 hFc hP1 hD1
  generalize H1 = H at hP hS ⊢
  have hP : va_P (dC, dI) vwCl [(r, .inl (kL, N, .inr (.inl f)))] H := hP
  have hD : va_D A [(r, .inl (kL, N, .inr (.inl f)))] := hD
  have hK : va_K (dC, dI) vwCl [(kL, .long)] s := hK
  refine lv_iload_n hx hb dJ7_fill_bad5a_7 rfl (lv_at hl 1 rfl) ?_
  refine lv_istore (lv' := [(5, .int (nI a)), (0, .ref r), (1, .int (nI a)), (2, .int (nI b)), (3, .long v)]) hx hb dJ7_fill_bad5a_8 hl (by decide) rfl (fun ls hl => ?_)
  refine W_q (fun Q1 hQ1 => ?_)
  have key1 : ∀ (n1 : Nat) (i : Nat) (g1 : Nat → Int64) (H : Heap) (locs : List Loc) (ls : Array Slot), (i + n1 = b + 1 ∧ i ≤ b ∧ a ≤ i) → (flL a i v f g1) → va_P (dC, dI) vwCl [(r, .inl (kL, N, .inr (.inl g1)))] H → va_D A [(r, .inl (kL, N, .inr (.inl g1)))] → va_S A s.heap H locs → lv_has ls 6 [(5, .int (nI i)), (0, .ref r), (1, .int (nI a)), (2, .int (nI b)), (3, .long v)] → W p l e (headSpec wp_c_fillLp ({ frames := 1, cells := 0, slots := 0, locals := 22 })).room s m ([.ref r, .int (nI a), .int (nI b), .long v] : List Value).toArray below meth c H locs 0 0 Q1 (F0 m 10 ls []) := by
    intro n1
    induction n1 with
    | zero => intro i g1 H locs ls hb0 hb1; exact absurd hb0 (by omega)
    | succ n1 ih1 =>
      intro i g1 H locs ls hb0 hb1 hP hD hS hl
      refine lv_iload hx hb dJ7_fill_bad5a_10 (lv_at hl 0 rfl) ?_
      refine lv_iload_n hx hb dJ7_fill_bad5a_12 rfl (lv_at hl 3 rfl) ?_
      refine lv_icmp_ge (tgt := 27) hx hb dJ7_fill_bad5a_13 (by decide) (fun hc => ?_) (fun hc => ?_)
      · have hi : i = b := by have := (nI_leI (a := b) (b := i) (by omega) (by omega)).mp hc; omega
        have hP9 := hP.sub (ws' := [(r, .inl (kL, N, .inr (.inl g1)))]) [0] rfl
        have hD9 := hD.sub (ws' := [(r, .inl (kL, N, .inr (.inl g1)))]) [0] (by decide) rfl
        have hK9 := hK.sub (tys' := [(kL, .long)]) [0] rfl
        subst hQ1
        exact W.vret hx hb hr (fun tS ht hW => ⟨⟨(), rfl, trivial, g1, by rw [← hi]; exact hb1, by rw [ht]; exact hP9, va_K.moved hW.alike hK9, hD9⟩, hS.F ht⟩) hS.2.2 dJ7_fill_bad5a_27
      · have hi : i < b := by rcases Nat.lt_or_ge i b with z | z; exact z; exact absurd (nI_le z (by omega)) hc
        refine lv_aload_n hx hb dJ7_fill_bad5a_16 rfl (lv_at hl 1 rfl) ?_
        refine lv_iload hx hb dJ7_fill_bad5a_17 (lv_at hl 0 rfl) ?_
        refine lv_lload_n hx hb dJ7_fill_bad5a_19 rfl (lv_at hl 4 rfl) ?_
        refine va_last hx hb hK hP hD hS 0 0 rfl rfl (vp_in_nI (by omega) (by omega)) dJ7_fill_bad5a_20 (fun H locs hP hD hS => ?_)
        have hP : va_P (dC, dI) vwCl [(r, .inl (kL, N, .inr (.inl (vp_updL g1 (nI i : Int32).toNatClampNeg v))))] H := hP
        have hD : va_D A [(r, .inl (kL, N, .inr (.inl (vp_updL g1 (nI i : Int32).toNatClampNeg v))))] := hD
        obtain ⟨g2, eg2⟩ : ∃ zZ : Nat → Int64, zZ = vp_updL g1 (nI i : Int32).toNatClampNeg v := ⟨_, rfl⟩
        rw [← eg2] at hP hD
        have hg2 : flL a (i + 1) v f g2 := by rw [eg2, nI_clamp (by omega)]; exact flL_step hb1 (by omega)
        obtain ⟨x_2, ex_2⟩ : ∃ yY : Int32, yY = (nI i) + 1 := ⟨_, rfl⟩
        refine lv_iinc (v := x_2) (lv' := [(5, .int x_2), (0, .ref r), (1, .int (nI a)), (2, .int (nI b)), (3, .long v)]) hx hb dJ7_fill_bad5a_21 hl (k := 0) rfl (by rw [ex_2]; rfl) (by decide) rfl (fun ls hl => ?_)
        obtain rfl : x_2 = nI (i + 1) := by rw [ex_2]; exact nI_1 i
        have hl : lv_has ls 6 [(5, .int (nI (i + 1))), (0, .ref r), (1, .int (nI a)), (2, .int (nI b)), (3, .long v)] := hl
        refine lv_goto (tgt := 10) hx hb dJ7_fill_bad5a_24 (by decide) ?_
        exact ih1 (i + 1) g2 _ _ _ (by omega) hg2 (hP.sub [0] rfl) (hD.sub [0] (by decide) rfl) hS (lv_sub hl [0, 1, 2, 3, 4] rfl)
  exact key1 (b + 1 - a) a f _ _ _ (by omega) (fun j => ⟨fun h => absurd h (by omega), fun _ => rfl⟩) (hP.sub [0] rfl) (hD.sub [0] (by decide) rfl) hS (lv_sub hl [0, 1, 2, 3, 4] rfl)
def wf_c_fillBp : List Cond := [.code yJ7_fill_eb02e cJ7_fill_eb02e 5 none, .code yJ7_rangeCheck_23922 cJ7_rangeCheck_23922 3 none, .methodLink RJ7 13 yJ7_rangeCheck_23922, .static yJ7_rangeCheck_23922, .initialized RJ7]
def wp_c_fillBp : List Cond := wf_c_fillBp ++ []
theorem wg_c_fillBp : wf_c_fillBp.all goodWord = true := by decide +kernel
theorem wm_c_fillBp (k : Nat) {w : Cond} (h : wp_c_fillBp[k]? = some w) : w ∈ wp_c_fillBp := List.mem_of_getElem? h
set_option maxRecDepth 20000 in
theorem g_c_fillBp_c_range_4 : GoodIn wp_c_fillBp (va_wsS RJ7 13 yJ7_rangeCheck_23922 wp_c_range) := goodIn_app (goodIn_f [.methodLink RJ7 13 yJ7_rangeCheck_23922, .static yJ7_rangeCheck_23922, .initialized RJ7] [2, 3, 4] rfl (by decide +kernel)) (goodIn_app (goodIn_f (wf_c_range) [1] rfl wg_c_range) (goodIn_n))
set_option maxHeartbeats 4000000 in
set_option maxRecDepth 100000 in
theorem c_fillBp (l : Launch) (dC : Nat → ClassId) (dI : Nat → Nat → Nat) (r N a b : Nat) (kB : ClassId) (f : Nat → Int32) (v : Int32) (sz : Nat) (hab : a ≤ b) (hbN : b ≤ N) (hN : N < 2 ^ 30) : Met l yJ7_fill_eb02e wp_c_fillBp ({ frames := 1, cells := 0, slots := 0, locals := 22 }) (va_Pc [.ref r, .int (nI a), .int (nI b), .int v] (fun U => U.heap.size = sz ∧ va_P (dC, dI) vwCl [(r, .inl (kB, N, .inl f))] U.heap ∧ va_K (dC, dI) vwCl [(kB, .byte)] U ∧ va_D (fun _ => True) [(r, .inl (kB, N, .inl f))])) (va_Qv (fun _ : Unit => True) (fun (_ : Unit) (tS : State) => ∃ (g : Nat → Int32), (flI a b (vp_nar .byte v) f g) ∧ va_P (dC, dI) vwCl [(r, .inl (kB, N, .inl g))] tS.heap ∧ va_K (dC, dI) vwCl [(kB, .byte)] tS ∧ va_D (va_A [(r, .inl (kB, N, .inl f))] sz) [(r, .inl (kB, N, .inl g))]) (va_A [(r, .inl (kB, N, .inl f))] sz)) 0 0 (va_A [(r, .inl (kB, N, .inl f))] sz) := by
  refine Met.ofW (cc := cJ7_fill_eb02e) (maxL := 5) (ret := none) (by decide) rfl ?_
  intro p e s m args below meth c s₁ B hml hv
  obtain ⟨rfl, hsz, hP, hK, hD0⟩ := hv
  have hx := B.exec
  have hb := B.bytes
  have hr := B.returns
  have hts := atoms_spec (ws := wp_c_fillBp) B.pre
  have hown : s.vm.findClass RJ7 = some m.cls := findClass_of_methodNamed B.named
  have hlocks := B.notSynchronized
  subst hsz
  have hD := hD0.self (sz := s.heap.size)
  generalize hAe : va_A [(r, .inl (kB, N, .inl f))] s.heap.size = A at hD ⊢
  have hA : ∀ q : Nat, s.heap.size ≤ q → A q := fun q h => by rw [← hAe]; exact Or.inr h
  have hS : va_S A s.heap s.heap [] := va_S.rf
  have hP : va_P (dC, dI) vwCl [(r, .inl (kB, N, .inl f))] s.heap := hP
  have hl := lv_entry ([.ref r, .int (nI a), .int (nI b), .int v]) (n := 5) (Nat.le_of_ble_eq_true rfl)
  rw [lg_entry_eq]
  generalize (lg_sl ([.ref r, .int (nI a), .int (nI b), .int v]) ++ List.replicate (5 - (lg_sl ([.ref r, .int (nI a), .int (nI b), .int v])).length) Slot.unset).toArray = ls at hl ⊢
  have hl : lv_has ls 5 [(0, .ref r), (1, .int (nI a)), (2, .int (nI b)), (3, .int v)] := hl
  refine lv_aload_n hx hb dJ7_fill_eb02e_0 rfl (lv_at hl 0 rfl) ?_
  refine va_alen (v := nI N) hx hb hK hP 0 0 rfl rfl rfl dJ7_fill_eb02e_1 ?_
  refine lv_iload_n hx hb dJ7_fill_eb02e_2 rfl (lv_at hl 1 rfl) ?_
  refine lv_iload_n hx hb dJ7_fill_eb02e_3 rfl (lv_at hl 2 rfl) ?_
  have hPc := hP.sub (ws' := []) [] rfl
  have hDc := hD.sub (ws' := []) [] (by decide) rfl
  have hKc := hK.sub (tys' := []) [] rfl
  have hFc := va_free (wc := []) hD hS hA [] rfl
  refine va_callv (va_runS (As := [.int (nI N), .int (nI a), .int (nI b)]) (rest := []) ⟨hx, hb, hml, hown, hts⟩ (c_range l dC dI N a b s.heap.size hab hbN hN) (va_cwS 3 hts g_c_fillBp_c_range_4 rfl rfl rfl (by decide +kernel) ⟨Nat.le_of_ble_eq_true rfl, Nat.le_of_ble_eq_true rfl⟩) ⟨fun a U g mk q => by obtain ⟨q0, q1, qP, qK, qD⟩ := q; exact ⟨q0, q1, qP, va_K.moved (u := U) (U := U.calling g mk a) (Vm.Alike.refl U.vm) qK, qD⟩, fun U hU hW => ⟨rfl, by rw [hU], by rw [hU]; exact hPc, va_K.moved hW.alike hKc, hDc.weaken (fun _ _ _ _ => trivial)⟩⟩ rfl rfl hl.1 rfl (lv_room (Nat.le_of_ble_eq_true rfl)) dJ7_fill_eb02e_4 ⟨(show 0 + 0 ≤ 0 by omega), (show 0 + 0 ≤ 0 by omega)⟩) hS (fun q _ h => hFc q h) hFc (fun u tS H1 locs ht hvm hw hB hz1 hk1 hS => ?_)
  obtain ⟨hP1, hK1, hD1⟩ := hB
  rw [ht] at hP1
  have hK1 := va_K.moved hvm.symm hK1
  obtain ⟨hP, hD⟩ := va_join (wr := [(r, .inl (kB, N, .inl f))]) (w1 := []) hP hD [] [0] rfl rfl (by decide) (by decide) hk1 hFc hP1 hD1
  generalize H1 = H at hP hS ⊢
  have hP : va_P (dC, dI) vwCl [(r, .inl (kB, N, .inl f))] H := hP
  have hD : va_D A [(r, .inl (kB, N, .inl f))] := hD
  have hK : va_K (dC, dI) vwCl [(kB, .byte)] s := hK
  refine lv_iload_n hx hb dJ7_fill_eb02e_7 rfl (lv_at hl 1 rfl) ?_
  refine lv_istore (lv' := [(4, .int (nI a)), (0, .ref r), (1, .int (nI a)), (2, .int (nI b)), (3, .int v)]) hx hb dJ7_fill_eb02e_8 hl (by decide) rfl (fun ls hl => ?_)
  refine W_q (fun Q1 hQ1 => ?_)
  have key1 : ∀ (n1 : Nat) (i : Nat) (g1 : Nat → Int32) (H : Heap) (locs : List Loc) (ls : Array Slot), (i + n1 = b + 1 ∧ i ≤ b ∧ a ≤ i) → (flI a i (vp_nar .byte v) f g1) → va_P (dC, dI) vwCl [(r, .inl (kB, N, .inl g1))] H → va_D A [(r, .inl (kB, N, .inl g1))] → va_S A s.heap H locs → lv_has ls 5 [(4, .int (nI i)), (0, .ref r), (1, .int (nI a)), (2, .int (nI b)), (3, .int v)] → W p l e (headSpec wp_c_fillBp ({ frames := 1, cells := 0, slots := 0, locals := 22 })).room s m ([.ref r, .int (nI a), .int (nI b), .int v] : List Value).toArray below meth c H locs 0 0 Q1 (F0 m 10 ls []) := by
    intro n1
    induction n1 with
    | zero => intro i g1 H locs ls hb0 hb1; exact absurd hb0 (by omega)
    | succ n1 ih1 =>
      intro i g1 H locs ls hb0 hb1 hP hD hS hl
      refine lv_iload hx hb dJ7_fill_eb02e_10 (lv_at hl 0 rfl) ?_
      refine lv_iload_n hx hb dJ7_fill_eb02e_12 rfl (lv_at hl 3 rfl) ?_
      refine lv_icmp_ge (tgt := 27) hx hb dJ7_fill_eb02e_13 (by decide) (fun hc => ?_) (fun hc => ?_)
      · have hi : i = b := by have := (nI_leI (a := b) (b := i) (by omega) (by omega)).mp hc; omega
        have hP9 := hP.sub (ws' := [(r, .inl (kB, N, .inl g1))]) [0] rfl
        have hD9 := hD.sub (ws' := [(r, .inl (kB, N, .inl g1))]) [0] (by decide) rfl
        have hK9 := hK.sub (tys' := [(kB, .byte)]) [0] rfl
        subst hQ1
        exact W.vret hx hb hr (fun tS ht hW => ⟨⟨(), rfl, trivial, g1, by rw [← hi]; exact hb1, by rw [ht]; exact hP9, va_K.moved hW.alike hK9, hD9⟩, hS.F ht⟩) hS.2.2 dJ7_fill_eb02e_27
      · have hi : i < b := by rcases Nat.lt_or_ge i b with z | z; exact z; exact absurd (nI_le z (by omega)) hc
        refine lv_aload_n hx hb dJ7_fill_eb02e_16 rfl (lv_at hl 1 rfl) ?_
        refine lv_iload hx hb dJ7_fill_eb02e_17 (lv_at hl 0 rfl) ?_
        refine lv_iload_n hx hb dJ7_fill_eb02e_19 rfl (lv_at hl 4 rfl) ?_
        refine va_bast hx hb hK hP hD hS 0 0 rfl rfl (vp_in_nI (by omega) (by omega)) dJ7_fill_eb02e_20 (fun H locs hP hD hS => ?_)
        have hP : va_P (dC, dI) vwCl [(r, .inl (kB, N, .inl (upd g1 (nI i : Int32).toNatClampNeg (vp_nar .byte v))))] H := hP
        have hD : va_D A [(r, .inl (kB, N, .inl (upd g1 (nI i : Int32).toNatClampNeg (vp_nar .byte v))))] := hD
        obtain ⟨g2, eg2⟩ : ∃ zZ : Nat → Int32, zZ = upd g1 (nI i : Int32).toNatClampNeg (vp_nar .byte v) := ⟨_, rfl⟩
        rw [← eg2] at hP hD
        have hg2 : flI a (i + 1) (vp_nar .byte v) f g2 := by rw [eg2, nI_clamp (by omega)]; exact flI_step hb1 (by omega)
        obtain ⟨x_2, ex_2⟩ : ∃ yY : Int32, yY = (nI i) + 1 := ⟨_, rfl⟩
        refine lv_iinc (v := x_2) (lv' := [(4, .int x_2), (0, .ref r), (1, .int (nI a)), (2, .int (nI b)), (3, .int v)]) hx hb dJ7_fill_eb02e_21 hl (k := 0) rfl (by rw [ex_2]; rfl) (by decide) rfl (fun ls hl => ?_)
        obtain rfl : x_2 = nI (i + 1) := by rw [ex_2]; exact nI_1 i
        have hl : lv_has ls 5 [(4, .int (nI (i + 1))), (0, .ref r), (1, .int (nI a)), (2, .int (nI b)), (3, .int v)] := hl
        refine lv_goto (tgt := 10) hx hb dJ7_fill_eb02e_24 (by decide) ?_
        exact ih1 (i + 1) g2 _ _ _ (by omega) hg2 (hP.sub [0] rfl) (hD.sub [0] (by decide) rfl) hS (lv_sub hl [0, 1, 2, 3, 4] rfl)
  exact key1 (b + 1 - a) a f _ _ _ (by omega) (fun j => ⟨fun h => absurd h (by omega), fun _ => rfl⟩) (hP.sub [0] rfl) (hD.sub [0] (by decide) rfl) hS (lv_sub hl [0, 1, 2, 3, 4] rfl)
