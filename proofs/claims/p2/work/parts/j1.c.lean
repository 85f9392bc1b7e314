-- j1.c.lean.txt
section
def wdL : List Int64 := [126943973696372, 1701737837, 26222, 7103860, 7173492, 26982, 1701606245, 512852847717, 469786452840, 125780071117422, 482955849332, 1953658213, 439721161573, 6451064, 7234935, 500085515630, 6909556, 1651470188, 1919246692]
def sfL : List Int32 := [61, 33, 60, 62, 38, 124, 58, 45, 61, 43, 45, 42, 47, 37, 60, 62, 33, 61, 38, 46, 44, 58, 59, 40, 41, 123, 125]
def ssL : List Int32 := [61, 61, 61, 61, 38, 124, 58, 62, 62, 0, 0, 0, 0, 0, 0, 0, 0, 0, 0, 0, 0, 0, 0, 0, 0, 0, 0]
def skL : List Int32 := [45, 46, 48, 50, 51, 52, 59, 65, 66, 40, 41, 42, 43, 44, 47, 49, 53, 54, 55, 56, 57, 58, 60, 61, 62, 63, 64]
def wnL : List Nat := [6, 4, 2, 3, 3, 2, 4, 5, 5, 6, 5, 4, 5, 3, 3, 5, 3, 4, 4]
/-- the static rows of the reference, outside what is changed -/
def stA (t0 t1 t2 t3 : Nat) (A : Nat → Prop) (U : State) (H : Heap) : Prop := (va_Z "OwnedPlacesModel" "WORDS" "[J" (.ref t0) A U H ∧ va_T .long t0 19 (fun j => .long (wdL.getD j 0)) A U H) ∧ (va_Z "OwnedPlacesModel" "SIGN_FIRST" "[I" (.ref t1) A U H ∧ va_T .int t1 27 (fun j => .int (sfL.getD j 0)) A U H) ∧ (va_Z "OwnedPlacesModel" "SIGN_SECOND" "[I" (.ref t2) A U H ∧ va_T .int t2 27 (fun j => .int (ssL.getD j 0)) A U H) ∧ (va_Z "OwnedPlacesModel" "SIGN_KIND" "[I" (.ref t3) A U H ∧ va_T .int t3 27 (fun j => .int (skL.getD j 0)) A U H)
theorem stA.moved {t0 t1 t2 t3 : Nat} {A : Nat → Prop} {u U : State} {H : Heap} (hvm : u.vm.Alike U.vm) (h : stA t0 t1 t2 t3 A u H) : stA t0 t1 t2 t3 A U H := ⟨⟨h.1.1.moved hvm, h.1.2.moved hvm⟩, ⟨h.2.1.1.moved hvm, h.2.1.2.moved hvm⟩, ⟨h.2.2.1.1.moved hvm, h.2.2.1.2.moved hvm⟩, ⟨h.2.2.2.1.moved hvm, h.2.2.2.2.moved hvm⟩⟩
theorem stA.kept {t0 t1 t2 t3 : Nat} {A : Nat → Prop} {U : State} {H H1 : Heap} (h : stA t0 t1 t2 t3 A U H) (hq : ∀ a : Nat, a < H.size → ¬ A a → H1[a]? = H[a]?) : stA t0 t1 t2 t3 A U H1 := ⟨⟨h.1.1.kept hq, h.1.2.kept hq⟩, ⟨h.2.1.1.kept hq, h.2.1.2.kept hq⟩, ⟨h.2.2.1.1.kept hq, h.2.2.1.2.kept hq⟩, ⟨h.2.2.2.1.kept hq, h.2.2.2.2.kept hq⟩⟩
theorem stA.narrow {t0 t1 t2 t3 : Nat} {A B : Nat → Prop} {U : State} {H : Heap} (h : stA t0 t1 t2 t3 A U H) (hAB : ∀ q, B q → A q) : stA t0 t1 t2 t3 B U H := ⟨⟨h.1.1.narrow hAB, h.1.2.narrow hAB⟩, ⟨h.2.1.1.narrow hAB, h.2.1.2.narrow hAB⟩, ⟨h.2.2.1.1.narrow hAB, h.2.2.1.2.narrow hAB⟩, ⟨h.2.2.2.1.narrow hAB, h.2.2.2.2.narrow hAB⟩⟩
def shW (x : Int64) (n : Nat) : Int64 := ((x : Int64).toUInt64 >>> ((8 * nI n : Int32).toInt64.toUInt64 &&& Int64.toUInt64 63)).toInt64
def wlW (x : Int64) (N : Nat) : Prop := N ≤ 6 ∧ (∀ n : Nat, n < N → ¬ shW x n = 0) ∧ shW x N = 0
theorem wdL_o0 : ∀ j : Nat, j < 19 → wnL.getD j 0 ≤ 6 ∧ (∀ n : Nat, n < wnL.getD j 0 → ¬ shW (wdL.getD j 0) n = 0) ∧ shW (wdL.getD j 0) (wnL.getD j 0) = 0 := by decide +kernel
theorem wdL_ok : ∀ j : Nat, j < 19 → wlW (wdL.getD j 0) (wnL.getD j 0) := fun j hj => wdL_o0 j hj
theorem ssL_ok : ∀ j : Nat, j < 27 → ssL.getD j 0 ≠ -1 := by decide +kernel
theorem skL_ok : ∀ j : Nat, j < 27 → skL.getD j 0 ≠ 0 ∧ skL.getD j 0 ≠ 19 := by decide +kernel
/-- the first T tokens: where they begin and end, up to e -/
def tkR (fk fa fe : Nat → Int32) (T e : Nat) : Prop := ∃ a b : Nat → Nat, (∀ j : Nat, j < T → fa j = nI (a j) ∧ fe j = nI (b j) ∧ a j < b j ∧ b j ≤ e ∧ fk j ≠ 0 ∧ (fk j = 19 → b j = a j + 6)) ∧ ∀ j : Nat, j + 1 < T → b j ≤ a (j + 1)
theorem tkR_0 {fk fa fe : Nat → Int32} {e : Nat} : tkR fk fa fe 0 e := ⟨fun _ => 0, fun _ => 0, fun j h => absurd h (by omega), fun j h => absurd h (by omega)⟩
theorem tkR_up {fk fa fe : Nat → Int32} {T e e2 : Nat} (h : tkR fk fa fe T e) (he : e ≤ e2) : tkR fk fa fe T e2 := by
  obtain ⟨a, b, h1, h2⟩ := h
  exact ⟨a, b, fun j hj => ⟨(h1 j hj).1, (h1 j hj).2.1, (h1 j hj).2.2.1, Nat.le_trans (h1 j hj).2.2.2.1 he, (h1 j hj).2.2.2.2⟩, h2⟩
theorem tkR_add {fk fa fe : Nat → Int32} {T e x y : Nat} {k : Int32} (h : tkR fk fa fe T e) (hx : e ≤ x) (hy : x < y) (hk : k ≠ 0) (hk9 : k = 19 → y = x + 6) : tkR (upd fk T k) (upd fa T (nI x)) (upd fe T (nI y)) (T + 1) y := by
  obtain ⟨a, b, h1, h2⟩ := h
  refine ⟨fun j => if j = T then x else a j, fun j => if j = T then y else b j, fun j hj => ?_, fun j hj => ?_⟩
  · by_cases e1 : j = T
    · subst e1
      dsimp only
      rw [pk_us, pk_us, pk_us, if_pos rfl, if_pos rfl]
      exact ⟨rfl, rfl, hy, Nat.le_refl _, hk, hk9⟩
    · dsimp only
      rw [pk_un e1, pk_un e1, pk_un e1, if_neg e1, if_neg e1]
      obtain ⟨g1, g2, g3, g4, g5⟩ := h1 j (by omega)
      exact ⟨g1, g2, g3, by omega, g5⟩
  · dsimp only
    rw [if_neg (show j ≠ T by omega)]
    by_cases e1 : j + 1 = T
    · rw [if_pos e1]
      have := (h1 j (by omega)).2.2.2.1
      omega
    · rw [if_neg e1]
      exact h2 j (by omega)
/-- all tokens of a text of zs bytes -/
def tkF (fk fa fe : Nat → Int32) (T zs : Nat) : Prop := 1 ≤ T ∧ T ≤ zs + 1 ∧ tkR fk fa fe (T - 1) zs ∧ fk (T - 1) = 0 ∧ fa (T - 1) = nI zs ∧ fe (T - 1) = nI zs
end
-- j1.d.lean.txt
section
def wf_c_rwl : List Cond := [.code yX23_wordLength cX23_wordLength 3 (some .int)]
def wp_c_rwl : List Cond := wf_c_rwl ++ []
theorem wg_c_rwl : wf_c_rwl.all goodWord = true := by decide +kernel
theorem wm_c_rwl (k : Nat) {w : Cond} (h : wp_c_rwl[k]? = some w) : w ∈ wp_c_rwl := List.mem_of_getElem? h
set_option maxHeartbeats 4000000 in
set_option maxRecDepth 100000 in
theorem c_rwl (l : Launch) (dC : Nat → ClassId) (dI : Nat → Nat → Nat) (x : Int64) (N : Nat) (sz : Nat) (hN : wlW x N) : Met l yX23_wordLength wp_c_rwl ({ frames := 0, cells := 0, slots := 0, locals := 0 }) (va_Pc [.long x] (fun U => U.heap.size = sz ∧ va_P (dC, dI) vwCl [] U.heap ∧ va_K (dC, dI) vwCl [] U ∧ va_D (fun _ => True) [])) (va_Qi (fun (r : Int32) (_ : Unit) => r = nI N) (fun (_ : Unit) (tS : State) => va_P (dC, dI) vwCl [] tS.heap ∧ va_K (dC, dI) vwCl [] tS ∧ va_D (va_A [] sz) []) (va_A [] sz)) 0 0 (va_A [] sz) := by
  refine Met.ofW (cc := cX23_wordLength) (maxL := 3) (ret := (some .int)) (by decide) rfl ?_
  intro p e s m args below meth c s₁ B hml hv
  obtain ⟨rfl, hsz, hP, hK, hD0⟩ := hv
  have hx := B.exec
  have hb := B.bytes
  have hr := B.returns
  have hts := atoms_spec (ws := wp_c_rwl) B.pre
  have hown : s.vm.findClass RX23 = some m.cls := findClass_of_methodNamed B.named
  have hlocks := B.notSynchronized
  subst hsz
  have hD := hD0.self (sz := s.heap.size)
  generalize hAe : va_A [] s.heap.size = A at hD ⊢
  have hA : ∀ q : Nat, s.heap.size ≤ q → A q := fun q h => by rw [← hAe]; exact Or.inr h
  have hS : va_S A s.heap s.heap [] := va_S.rf
  have hP : va_P (dC, dI) vwCl [] s.heap := hP
  have hl := lv_entry ([.long x]) (n := 3) (Nat.le_of_ble_eq_true rfl)
  rw [lg_entry_eq]
  generalize (lg_sl ([.long x]) ++ List.replicate (3 - (lg_sl ([.long x])).length) Slot.unset).toArray = ls at hl ⊢
  have hl : lv_has ls 3 [(0, .long x)] := hl
  refine lv_iconst (v := 0) hx hb dX23_wordLength_0 (by decide) ?_
  refine lv_istore_n (lv' := [(2, .int 0), (0, .long x)]) hx hb dX23_wordLength_1 rfl hl (by decide) rfl (fun ls hl => ?_)
  refine W_q (fun Q1 hQ1 => ?_)
  have key1 : ∀ (n1 : Nat) (i : Nat) (H : Heap) (locs : List Loc) (ls : Array Slot), (i + n1 = N + 1 ∧ i ≤ N) → va_P (dC, dI) vwCl [] H → va_D A [] → va_S A s.heap H locs → lv_has ls 3 [(2, .int (nI i)), (0, .long x)] → W p l e (headSpec wp_c_rwl ({ frames := 0, cells := 0, slots := 0, locals := 0 })).room s m ([.long x] : List Value).toArray below meth c H locs 0 0 Q1 (F0 m 2 ls []) := by
    intro n1
    induction n1 with
    | zero => intro i H locs ls hb0; exact absurd hb0 (by omega)
    | succ n1 ih1 =>
      intro i H locs ls hb0 hP hD hS hl
      refine lv_lload_n hx hb dX23_wordLength_2 rfl (lv_at hl 1 rfl) ?_
      refine lv_bipush (v := 8) hx hb dX23_wordLength_3 (by decide) ?_
      refine lv_iload_n hx hb dX23_wordLength_5 rfl (lv_at hl 0 rfl) ?_
      refine lv_imul hx hb dX23_wordLength_6 ?_
      refine lv_topi (fun f_1 ef_1 => ?_)
      subst ef_1
      obtain ⟨f_2, ef_2⟩ : ∃ yY : Int64, yY = ((x : Int64).toUInt64 >>> ((8 * nI i : Int32).toInt64.toUInt64 &&& Int64.toUInt64 63)).toInt64 := ⟨_, rfl⟩
      refine lv_lushr (v := f_2) hx hb dX23_wordLength_7 ef_2.symm ?_
      have hg : f_2 = shW x i := ef_2
      refine lv_lconst (v := 0) hx hb dX23_wordLength_8 (by decide) ?_
      refine W.lcmp hx hb dX23_wordLength_9 ?_
      refine lv_topi (fun f_3 ef_3 => ?_)
      refine lv_if_eq (tgt := 19) hx hb dX23_wordLength_10 (by decide) (fun hc => ?_) (fun hc => ?_)
      · have hN6 := hN.1
        have hz : shW x i = 0 := by rw [← hg]; exact (lg_cmp_eq _ _).mp (ef_3.symm.trans hc)
        obtain rfl : i = N := by rcases Nat.lt_or_ge i N with z9 | z9; exact absurd hz (hN.2.1 i z9); omega
        refine lv_iload_n hx hb dX23_wordLength_19 rfl (lv_at hl 0 rfl) ?_
        have hP9 := hP.sub (ws' := []) [] rfl
        have hD9 := hD.sub (ws' := []) [] (by decide) rfl
        have hK9 := hK.sub (tys' := []) [] rfl
        subst hQ1
        exact W.iret (v := nI i) hx hb hr (fun tS ht hW => ⟨⟨(nI i), (), rfl, rfl, by rw [ht]; exact hP9, va_K.moved hW.alike hK9, hD9⟩, hS.F ht⟩) hS.2.2 dX23_wordLength_20
      · have hz : ¬ shW x i = 0 := fun q => hc (ef_3.trans ((lg_cmp_eq _ _).mpr (hg.trans q)))
        have hlt : i < N := by rcases Nat.lt_or_ge i N with z9 | z9; exact z9; exact absurd (by rw [show i = N by omega]; exact hN.2.2) hz
        have hN6 := hN.1
        obtain ⟨x_4, ex_4⟩ : ∃ yY : Int32, yY = (nI i) + 1 := ⟨_, rfl⟩
        refine lv_iinc (v := x_4) (lv' := [(2, .int x_4), (0, .long x)]) hx hb dX23_wordLength_13 hl (k := 0) rfl (by rw [ex_4]; rfl) (by decide) rfl (fun ls hl => ?_)
        obtain rfl : x_4 = nI (i + 1) := by rw [ex_4]; exact nI_1 i
        have hl : lv_has ls 3 [(2, .int (nI (i + 1))), (0, .long x)] := hl
        refine lv_goto (tgt := 2) hx hb dX23_wordLength_16 (by decide) ?_
        exact ih1 (i + 1) _ _ _ (by omega) (hP.sub [] rfl) (hD.sub [] (by decide) rfl) hS (lv_sub hl [0, 1] rfl)
  exact key1 (N + 1) 0 _ _ _ (by omega) (hP.sub [] rfl) (hD.sub [] (by decide) rfl) hS (lv_sub hl [0, 1] rfl)
end
-- j1.e.lean.txt
section
def wf_c_rwo : List Cond := [.code yX23_wordOf cX23_wordOf 7 (some .int), .fieldLink RX23 15 "OwnedPlacesModel" "WORDS" "[J", .code yX23_wordLength cX23_wordLength 3 (some .int), .methodLink RX23 19 yX23_wordLength, .static yX23_wordLength, .initialized RX23, .fieldLink RX23 7 "OwnedPlacesModel" "text" "[I", .constantLong RX23 23 255]
def wp_c_rwo : List Cond := wf_c_rwo ++ (wsX230 ++ [])
theorem in_c_rwo_X23 : ∀ w ∈ wsX230, w ∈ wp_c_rwo := fun w h => List.mem_append_right _ (List.mem_append_left _ h)
theorem wg_c_rwo : wf_c_rwo.all goodWord = true := by decide +kernel
theorem wm_c_rwo (k : Nat) {w : Cond} (h : wp_c_rwo[k]? = some w) : w ∈ wp_c_rwo := List.mem_of_getElem? h
set_option maxRecDepth 20000 in
theorem g_c_rwo_c_rwl_15 : GoodIn wp_c_rwo (va_wsS RX23 19 yX23_wordLength wp_c_rwl) := goodIn_app (goodIn_f [.methodLink RX23 19 yX23_wordLength, .static yX23_wordLength, .initialized RX23] [3, 4, 5] rfl (by decide +kernel)) (goodIn_app (goodIn_f (wf_c_rwl) [2] rfl wg_c_rwl) (goodIn_n))
set_option maxHeartbeats 4000000 in
set_option maxRecDepth 100000 in
theorem c_rwo (l : Launch) (dC : Nat → ClassId) (dI : Nat → Nat → Nat) (m9 : Nat) (mr : Nat → Nat) (mv : Nat → Int32) (vf : Value) (xl xf xa xp xi xt xn xe xv xb : Int32) (zs tk : Nat) (a0 b0 : Nat) (kI : ClassId) (ft : Nat → Int32) (t0 t1 t2 t3 : Nat) (sz : Nat) (hab : a0 ≤ b0 ∧ b0 ≤ 3000) : Met l yX23_wordOf wp_c_rwo ({ frames := 1, cells := 0, slots := 0, locals := 22 }) (va_Pc [.ref m9, .int (nI a0), .int (nI b0)] (fun U => U.heap.size = sz ∧ va_P (dC, dI) vwCl [(m9, .inr (23, mA mr mv vf xl (nI zs) xf xa (nI tk) xp xi xt xn xe xv xb)), (mr 0, .inl (kI, 3000, .inl ft))] U.heap ∧ va_K (dC, dI) vwCl [(kI, .int)] U ∧ va_D (fun _ => True) [(m9, .inr (23, mA mr mv vf xl (nI zs) xf xa (nI tk) xp xi xt xn xe xv xb)), (mr 0, .inl (kI, 3000, .inl ft))] ∧ stA t0 t1 t2 t3 (va_A [(m9, .inr (23, mA mr mv vf xl (nI zs) xf xa (nI tk) xp xi xt xn xe xv xb)), (mr 0, .inl (kI, 3000, .inl ft))] sz) U U.heap)) (va_Qi (fun (r : Int32) (_ : Unit) => r = 2 ∨ ∃ j : Nat, j < 19 ∧ r = nI (10 + j) ∧ (j = 9 → b0 = a0 + 6)) (fun (_ : Unit) (tS : State) => va_P (dC, dI) vwCl [(m9, .inr (23, mA mr mv vf xl (nI zs) xf xa (nI tk) xp xi xt xn xe xv xb)), (mr 0, .inl (kI, 3000, .inl ft))] tS.heap ∧ va_K (dC, dI) vwCl [(kI, .int)] tS ∧ va_D (va_A [(m9, .inr (23, mA mr mv vf xl (nI zs) xf xa (nI tk) xp xi xt xn xe xv xb)), (mr 0, .inl (kI, 3000, .inl ft))] sz) [(m9, .inr (23, mA mr mv vf xl (nI zs) xf xa (nI tk) xp xi xt xn xe xv xb)), (mr 0, .inl (kI, 3000, .inl ft))]) (va_A [(m9, .inr (23, mA mr mv vf xl (nI zs) xf xa (nI tk) xp xi xt xn xe xv xb)), (mr 0, .inl (kI, 3000, .inl ft))] sz)) 0 0 (va_A [(m9, .inr (23, mA mr mv vf xl (nI zs) xf xa (nI tk) xp xi xt xn xe xv xb)), (mr 0, .inl (kI, 3000, .inl ft))] sz) := by
  refine Met.ofW (cc := cX23_wordOf) (maxL := 7) (ret := (some .int)) (by decide) rfl ?_
  intro p e s m args below meth c s₁ B hml hv
  obtain ⟨rfl, hsz, hP, hK, hD0, hpre0⟩ := hv
  have hx := B.exec
  have hb := B.bytes
  have hr := B.returns
  have hts := atoms_spec (ws := wp_c_rwo) B.pre
  have hown : s.vm.findClass RX23 = some m.cls := findClass_of_methodNamed B.named
  have hlocks := B.notSynchronized
  subst hsz
  have hD := hD0.self (sz := s.heap.size)
  generalize hAe : va_A [(m9, .inr (23, mA mr mv vf xl (nI zs) xf xa (nI tk) xp xi xt xn xe xv xb)), (mr 0, .inl (kI, 3000, .inl ft))] s.heap.size = A at hD hpre0 ⊢
  have hA : ∀ q : Nat, s.heap.size ≤ q → A q := fun q h => by rw [← hAe]; exact Or.inr h
  have hS : va_S A s.heap s.heap [] := va_S.rf
  have hP : va_P (dC, dI) vwCl [(m9, .inr (23, mA mr mv vf xl (nI zs) xf xa (nI tk) xp xi xt xn xe xv xb)), (mr 0, .inl (kI, 3000, .inl ft))] s.heap := hP
  have hl := lv_entry ([.ref m9, .int (nI a0), .int (nI b0)]) (n := 7) (Nat.le_of_ble_eq_true rfl)
  rw [lg_entry_eq]
  generalize (lg_sl ([.ref m9, .int (nI a0), .int (nI b0)]) ++ List.replicate (7 - (lg_sl ([.ref m9, .int (nI a0), .int (nI b0)])).length) Slot.unset).toArray = ls at hl ⊢
  have hl : lv_has ls 7 [(0, .ref m9), (1, .int (nI a0)), (2, .int (nI b0))] := hl
  refine lv_iconst (v := 0) hx hb dX23_wordOf_0 (by decide) ?_
  refine lv_istore_n (lv' := [(3, .int 0), (0, .ref m9), (1, .int (nI a0)), (2, .int (nI b0))]) hx hb dX23_wordOf_1 rfl hl (by decide) rfl (fun ls hl => ?_)
  refine W_q (fun Q1 hQ1 => ?_)
  have key1 : ∀ (n1 : Nat) (i : Nat) (H : Heap) (locs : List Loc) (ls : Array Slot), (i + n1 = 20 ∧ i ≤ 19) → va_P (dC, dI) vwCl [(m9, .inr (23, mA mr mv vf xl (nI zs) xf xa (nI tk) xp xi xt xn xe xv xb)), (mr 0, .inl (kI, 3000, .inl ft))] H → va_D A [(m9, .inr (23, mA mr mv vf xl (nI zs) xf xa (nI tk) xp xi xt xn xe xv xb)), (mr 0, .inl (kI, 3000, .inl ft))] → va_S A s.heap H locs → lv_has ls 7 [(3, .int (nI i)), (0, .ref m9), (1, .int (nI a0)), (2, .int (nI b0))] → W p l e (headSpec wp_c_rwo ({ frames := 1, cells := 0, slots := 0, locals := 22 })).room s m ([.ref m9, .int (nI a0), .int (nI b0)] : List Value).toArray below meth c H locs 0 0 Q1 (F0 m 2 ls []) := by
    intro n1
    induction n1 with
    | zero => intro i H locs ls ha0; exact absurd ha0 (by omega)
    | succ n1 ih1 =>
      intro i H locs ls ha0 hP hD hS hl
      refine lv_iload_n hx hb dX23_wordOf_2 rfl (lv_at hl 0 rfl) ?_
      refine va_gets (v := .ref t0) hx hb hpre0.1.1 hS hown (hts (.fieldLink RX23 15 "OwnedPlacesModel" "WORDS" "[J") (wm_c_rwo 1 rfl)) (fun _ h9 => h9) dX23_wordOf_3 ?_
      refine va_tlen (v := 19) hx hb hpre0.1.2 hS rfl dX23_wordOf_6 ?_
      refine lv_icmp_ge (tgt := 112) hx hb dX23_wordOf_7 (by decide) (fun hc => ?_) (fun hc => ?_)
      · refine lv_iconst (v := 2) hx hb dX23_wordOf_112 (by decide) ?_
        have hP9 := hP.sub (ws' := [(m9, .inr (23, mA mr mv vf xl (nI zs) xf xa (nI tk) xp xi xt xn xe xv xb)), (mr 0, .inl (kI, 3000, .inl ft))]) [0, 1] rfl
        have hD9 := hD.sub (ws' := [(m9, .inr (23, mA mr mv vf xl (nI zs) xf xa (nI tk) xp xi xt xn xe xv xb)), (mr 0, .inl (kI, 3000, .inl ft))]) [0, 1] (by decide) rfl
        have hK9 := hK.sub (tys' := [(kI, .int)]) [0] rfl
        subst hQ1
        exact W.iret (v := 2) hx hb hr (fun tS ht hW => ⟨⟨2, (), rfl, (Or.inl rfl), by rw [ht]; exact hP9, va_K.moved hW.alike hK9, hD9⟩, hS.F ht⟩) hS.2.2 dX23_wordOf_113
      · have hi : i < 19 := by rcases Nat.lt_or_ge i 19 with z9 | z9; exact z9; exact absurd (nI_le (a := 19) z9 (by omega)) hc
        refine va_gets (v := .ref t0) hx hb hpre0.1.1 hS hown (hts (.fieldLink RX23 15 "OwnedPlacesModel" "WORDS" "[J") (wm_c_rwo 1 rfl)) (fun _ h9 => h9) dX23_wordOf_10 ?_
        refine lv_iload_n hx hb dX23_wordOf_13 rfl (lv_at hl 0 rfl) ?_
        refine va_tl (v := .long (wdL.getD i 0)) hx hb hpre0.1.2 hS (vp_in_nI hi (by decide)) (by rw [nI_clamp (by omega)]) dX23_wordOf_14 ?_
        have hW9 := wdL_ok i hi
        have hPc := hP.sub (ws' := []) [] rfl
        have hDc := hD.sub (ws' := []) [] (by decide) rfl
        have hKc := hK.sub (tys' := []) [] rfl
        have hFc := va_free (wc := []) hD hS hA [] rfl
        refine va_calli (va_runS (As := [.long (wdL.getD i 0)]) (rest := []) ⟨hx, hb, hml, hown, hts⟩ (c_rwl l dC dI (wdL.getD i 0) (wnL.getD i 0) H.size hW9) (va_cwS 1 hts g_c_rwo_c_rwl_15 rfl rfl rfl (by decide +kernel) ⟨Nat.le_of_ble_eq_true rfl, Nat.le_of_ble_eq_true rfl⟩) ⟨fun a U g mk q => by obtain ⟨q0, q1, qP, qK, qD⟩ := q; exact ⟨q0, q1, qP, va_K.moved (u := U) (U := U.calling g mk a) (Vm.Alike.refl U.vm) qK, qD⟩, fun U hU hW => ⟨rfl, by rw [hU], by rw [hU]; exact hPc, va_K.moved hW.alike hKc, hDc.weaken (fun _ _ _ _ => trivial)⟩⟩ rfl rfl hl.1 rfl (lv_room (Nat.le_of_ble_eq_true rfl)) dX23_wordOf_15 ⟨(show 0 + 0 ≤ 0 by omega), (show 0 + 0 ≤ 0 by omega)⟩) hS (fun q _ h => hFc q h) hFc (fun r_1 u tS H1 locs ht hvm hw hB hz1 hk1 hS => ?_)
        obtain ⟨hP1, hK1, hD1⟩ := hB
        rw [ht] at hP1
        have hK1 := va_K.moved hvm.symm hK1
        obtain ⟨hP, hD⟩ := va_join (wr := [(m9, .inr (23, mA mr mv vf xl (nI zs) xf xa (nI tk) xp xi xt xn xe xv xb)), (mr 0, .inl (kI, 3000, .inl ft))]) (w1 := []) hP hD [] [0, 1] rfl rfl (by decide) (by decide) hk1 hFc hP1 hD1
        generalize H1 = H at hP hS ⊢
        have hP : va_P (dC, dI) vwCl [(m9, .inr (23, mA mr mv vf xl (nI zs) xf xa (nI tk) xp xi xt xn xe xv xb)), (mr 0, .inl (kI, 3000, .inl ft))] H := hP
        have hD : va_D A [(m9, .inr (23, mA mr mv vf xl (nI zs) xf xa (nI tk) xp xi xt xn xe xv xb)), (mr 0, .inl (kI, 3000, .inl ft))] := hD
        have hK : va_K (dC, dI) vwCl [(kI, .int)] s := hK
        obtain rfl : r_1 = nI (wnL.getD i 0) := hw
        obtain ⟨N, eN⟩ : ∃ N : Nat, N = wnL.getD i 0 := ⟨_, rfl⟩
        rw [← eN] at hW9 ⊢
        have hN6 := hW9.1
        refine lv_istore (lv' := [(4, .int (nI N)), (3, .int (nI i)), (0, .ref m9), (1, .int (nI a0)), (2, .int (nI b0))]) hx hb dX23_wordOf_18 hl (by decide) rfl (fun ls hl => ?_)
        refine lv_iload_n hx hb dX23_wordOf_20 rfl (lv_at hl 4 rfl) ?_
        refine lv_iload_n hx hb dX23_wordOf_21 rfl (lv_at hl 3 rfl) ?_
        refine lv_isub hx hb dX23_wordOf_22 ?_
        refine lv_topi (fun f_2 ef_2 => ?_)
        obtain rfl : f_2 = nI (b0 - a0) := ef_2.trans (pk_sub (a := b0) (b := a0) (by omega))
        refine lv_iload hx hb dX23_wordOf_23 (lv_at hl 0 rfl) ?_
        refine lv_icmp_ne (tgt := 32) hx hb dX23_wordOf_25 (by decide) (fun hs => ?_) (fun hs => ?_)
        · refine lv_iconst (v := 0) hx hb dX23_wordOf_32 (by decide) ?_
          refine lv_istore (lv' := [(5, .int 0), (4, .int (nI N)), (3, .int (nI i)), (0, .ref m9), (1, .int (nI a0)), (2, .int (nI b0))]) hx hb dX23_wordOf_33 hl (by decide) rfl (fun ls hl => ?_)
          refine lv_iconst (v := 0) hx hb dX23_wordOf_35 (by decide) ?_
          refine lv_istore (lv' := [(6, .int 0), (5, .int 0), (4, .int (nI N)), (3, .int (nI i)), (0, .ref m9), (1, .int (nI a0)), (2, .int (nI b0))]) hx hb dX23_wordOf_36 hl (by decide) rfl (fun ls hl => ?_)
          refine lv_iload hx hb dX23_wordOf_38 (lv_at hl 0 rfl) ?_
          refine lv_iload hx hb dX23_wordOf_40 (lv_at hl 2 rfl) ?_
          refine lv_icmp_ge (tgt := 96) hx hb dX23_wordOf_42 (by decide) (fun hk0 => ?_) (fun hk0 => ?_)
          · refine lv_iload hx hb dX23_wordOf_96 (lv_at hl 1 rfl) ?_
            refine lv_if_eq (tgt := 106) hx hb dX23_wordOf_98 (by decide) (fun _ => ?_) (fun c_3 => absurd (by decide) c_3)
            obtain ⟨x_4, ex_4⟩ : ∃ yY : Int32, yY = (nI i) + 1 := ⟨_, rfl⟩
            refine lv_iinc (v := x_4) (lv' := [(3, .int x_4), (6, .int 0), (5, .int 0), (4, .int (nI N)), (0, .ref m9), (1, .int (nI a0)), (2, .int (nI b0))]) hx hb dX23_wordOf_106 hl (k := 3) rfl (by rw [ex_4]; rfl) (by decide) rfl (fun ls hl => ?_)
            obtain rfl : x_4 = nI (i + 1) := by rw [ex_4]; exact nI_1 i
            have hl : lv_has ls 7 [(3, .int (nI (i + 1))), (6, .int 0), (5, .int 0), (4, .int (nI N)), (0, .ref m9), (1, .int (nI a0)), (2, .int (nI b0))] := hl
            refine lv_goto (tgt := 2) hx hb dX23_wordOf_109 (by decide) ?_
            exact ih1 (i + 1) _ _ _ (by omega) (hP.sub [0, 1] rfl) (hD.sub [0, 1] (by decide) rfl) hS (lv_sub hl [0, 4, 5, 6] rfl)
          · refine lv_iload hx hb dX23_wordOf_45 (lv_at hl 1 rfl) ?_
            refine lv_if_eq (tgt := 96) hx hb dX23_wordOf_47 (by decide) (fun _ => ?_) (fun c_3 => absurd (by decide) c_3)
            refine lv_iload hx hb dX23_wordOf_96 (lv_at hl 1 rfl) ?_
            refine lv_if_eq (tgt := 106) hx hb dX23_wordOf_98 (by decide) (fun _ => ?_) (fun c_4 => absurd (by decide) c_4)
            obtain ⟨x_5, ex_5⟩ : ∃ yY : Int32, yY = (nI i) + 1 := ⟨_, rfl⟩
            refine lv_iinc (v := x_5) (lv' := [(3, .int x_5), (6, .int 0), (5, .int 0), (4, .int (nI N)), (0, .ref m9), (1, .int (nI a0)), (2, .int (nI b0))]) hx hb dX23_wordOf_106 hl (k := 3) rfl (by rw [ex_5]; rfl) (by decide) rfl (fun ls hl => ?_)
            obtain rfl : x_5 = nI (i + 1) := by rw [ex_5]; exact nI_1 i
            have hl : lv_has ls 7 [(3, .int (nI (i + 1))), (6, .int 0), (5, .int 0), (4, .int (nI N)), (0, .ref m9), (1, .int (nI a0)), (2, .int (nI b0))] := hl
            refine lv_goto (tgt := 2) hx hb dX23_wordOf_109 (by decide) ?_
            exact ih1 (i + 1) _ _ _ (by omega) (hP.sub [0, 1] rfl) (hD.sub [0, 1] (by decide) rfl) hS (lv_sub hl [0, 4, 5, 6] rfl)
        · have hlen : b0 - a0 = N := (nI_eq (by omega) (by omega)).mp hs
          refine lv_iconst (v := 1) hx hb dX23_wordOf_28 (by decide) ?_
          refine lv_goto (tgt := 33) hx hb dX23_wordOf_29 (by decide) ?_
          refine lv_istore (lv' := [(5, .int 1), (4, .int (nI N)), (3, .int (nI i)), (0, .ref m9), (1, .int (nI a0)), (2, .int (nI b0))]) hx hb dX23_wordOf_33 hl (by decide) rfl (fun ls hl => ?_)
          refine lv_iconst (v := 0) hx hb dX23_wordOf_35 (by decide) ?_
          refine lv_istore (lv' := [(6, .int 0), (5, .int 1), (4, .int (nI N)), (3, .int (nI i)), (0, .ref m9), (1, .int (nI a0)), (2, .int (nI b0))]) hx hb dX23_wordOf_36 hl (by decide) rfl (fun ls hl => ?_)
          refine W_q (fun Q2 hQ2 => ?_)
          have key2 : ∀ (n2 : Nat) (k : Nat) (sm : Int32) (H : Heap) (locs : List Loc) (ls : Array Slot), (k + n2 = N + 1 ∧ k ≤ N) → va_P (dC, dI) vwCl [(m9, .inr (23, mA mr mv vf xl (nI zs) xf xa (nI tk) xp xi xt xn xe xv xb)), (mr 0, .inl (kI, 3000, .inl ft))] H → va_D A [(m9, .inr (23, mA mr mv vf xl (nI zs) xf xa (nI tk) xp xi xt xn xe xv xb)), (mr 0, .inl (kI, 3000, .inl ft))] → va_S A s.heap H locs → lv_has ls 7 [(6, .int (nI k)), (5, .int sm), (4, .int (nI N)), (3, .int (nI i)), (0, .ref m9), (1, .int (nI a0)), (2, .int (nI b0))] → W p l e (headSpec wp_c_rwo ({ frames := 1, cells := 0, slots := 0, locals := 22 })).room s m ([.ref m9, .int (nI a0), .int (nI b0)] : List Value).toArray below meth c H locs 0 0 Q2 (F0 m 38 ls []) := by
            intro n2
            induction n2 with
            | zero => intro k sm H locs ls hb0; exact absurd hb0 (by omega)
            | succ n2 ih2 =>
              intro k sm H locs ls hb0 hP hD hS hl
              refine lv_iload hx hb dX23_wordOf_38 (lv_at hl 0 rfl) ?_
              refine lv_iload hx hb dX23_wordOf_40 (lv_at hl 2 rfl) ?_
              refine lv_icmp_ge (tgt := 96) hx hb dX23_wordOf_42 (by decide) (fun hk0 => ?_) (fun hk0 => ?_)
              · refine lv_iload hx hb dX23_wordOf_96 (lv_at hl 1 rfl) ?_
                refine lv_if_eq (tgt := 106) hx hb dX23_wordOf_98 (by decide) (fun hsm => ?_) (fun hsm => ?_)
                · subst hQ2
                  obtain ⟨x_3, ex_3⟩ : ∃ yY : Int32, yY = (nI i) + 1 := ⟨_, rfl⟩
                  refine lv_iinc (v := x_3) (lv' := [(3, .int x_3), (6, .int (nI k)), (5, .int sm), (4, .int (nI N)), (0, .ref m9), (1, .int (nI a0)), (2, .int (nI b0))]) hx hb dX23_wordOf_106 hl (k := 3) rfl (by rw [ex_3]; rfl) (by decide) rfl (fun ls hl => ?_)
                  obtain rfl : x_3 = nI (i + 1) := by rw [ex_3]; exact nI_1 i
                  have hl : lv_has ls 7 [(3, .int (nI (i + 1))), (6, .int (nI k)), (5, .int sm), (4, .int (nI N)), (0, .ref m9), (1, .int (nI a0)), (2, .int (nI b0))] := hl
                  refine lv_goto (tgt := 2) hx hb dX23_wordOf_109 (by decide) ?_
                  exact ih1 (i + 1) _ _ _ (by omega) (hP.sub [0, 1] rfl) (hD.sub [0, 1] (by decide) rfl) hS (lv_sub hl [0, 4, 5, 6] rfl)
                · refine lv_bipush (v := 10) hx hb dX23_wordOf_101 (by decide) ?_
                  refine lv_iload_n hx hb dX23_wordOf_103 rfl (lv_at hl 3 rfl) ?_
                  refine lv_iadd hx hb dX23_wordOf_104 ?_
                  refine lv_topi (fun f_3 ef_3 => ?_)
                  obtain rfl : f_3 = nI (10 + i) := ef_3.trans (nI_add 10 i)
                  have hP9 := hP.sub (ws' := [(m9, .inr (23, mA mr mv vf xl (nI zs) xf xa (nI tk) xp xi xt xn xe xv xb)), (mr 0, .inl (kI, 3000, .inl ft))]) [0, 1] rfl
                  have hD9 := hD.sub (ws' := [(m9, .inr (23, mA mr mv vf xl (nI zs) xf xa (nI tk) xp xi xt xn xe xv xb)), (mr 0, .inl (kI, 3000, .inl ft))]) [0, 1] (by decide) rfl
                  have hK9 := hK.sub (tys' := [(kI, .int)]) [0] rfl
                  subst hQ2
                  subst hQ1
                  exact W.iret (v := nI (10 + i)) hx hb hr (fun tS ht hW => ⟨⟨(nI (10 + i)), (), rfl, (Or.inr ⟨i, hi, rfl, fun q => by subst q; have : N = 6 := eN; omega⟩), by rw [ht]; exact hP9, va_K.moved hW.alike hK9, hD9⟩, hS.F ht⟩) hS.2.2 dX23_wordOf_105
              · have hkN : k < N := by rcases Nat.lt_or_ge k N with z9 | z9; exact z9; exact absurd (nI_le z9 (by omega)) hk0
                refine lv_iload hx hb dX23_wordOf_45 (lv_at hl 1 rfl) ?_
                refine lv_if_eq (tgt := 96) hx hb dX23_wordOf_47 (by decide) (fun hsm0 => ?_) (fun hsm0 => ?_)
                · refine lv_iload hx hb dX23_wordOf_96 (lv_at hl 1 rfl) ?_
                  refine lv_if_eq (tgt := 106) hx hb dX23_wordOf_98 (by decide) (fun hsm => ?_) (fun hsm => ?_)
                  · subst hQ2
                    obtain ⟨x_3, ex_3⟩ : ∃ yY : Int32, yY = (nI i) + 1 := ⟨_, rfl⟩
                    refine lv_iinc (v := x_3) (lv' := [(3, .int x_3), (6, .int (nI k)), (5, .int sm), (4, .int (nI N)), (0, .ref m9), (1, .int (nI a0)), (2, .int (nI b0))]) hx hb dX23_wordOf_106 hl (k := 3) rfl (by rw [ex_3]; rfl) (by decide) rfl (fun ls hl => ?_)
                    obtain rfl : x_3 = nI (i + 1) := by rw [ex_3]; exact nI_1 i
                    have hl : lv_has ls 7 [(3, .int (nI (i + 1))), (6, .int (nI k)), (5, .int sm), (4, .int (nI N)), (0, .ref m9), (1, .int (nI a0)), (2, .int (nI b0))] := hl
                    refine lv_goto (tgt := 2) hx hb dX23_wordOf_109 (by decide) ?_
                    exact ih1 (i + 1) _ _ _ (by omega) (hP.sub [0, 1] rfl) (hD.sub [0, 1] (by decide) rfl) hS (lv_sub hl [0, 4, 5, 6] rfl)
                  · refine lv_bipush (v := 10) hx hb dX23_wordOf_101 (by decide) ?_
                    refine lv_iload_n hx hb dX23_wordOf_103 rfl (lv_at hl 3 rfl) ?_
                    refine lv_iadd hx hb dX23_wordOf_104 ?_
                    refine lv_topi (fun f_3 ef_3 => ?_)
                    obtain rfl : f_3 = nI (10 + i) := ef_3.trans (nI_add 10 i)
                    have hP9 := hP.sub (ws' := [(m9, .inr (23, mA mr mv vf xl (nI zs) xf xa (nI tk) xp xi xt xn xe xv xb)), (mr 0, .inl (kI, 3000, .inl ft))]) [0, 1] rfl
                    have hD9 := hD.sub (ws' := [(m9, .inr (23, mA mr mv vf xl (nI zs) xf xa (nI tk) xp xi xt xn xe xv xb)), (mr 0, .inl (kI, 3000, .inl ft))]) [0, 1] (by decide) rfl
                    have hK9 := hK.sub (tys' := [(kI, .int)]) [0] rfl
                    subst hQ2
                    subst hQ1
                    exact W.iret (v := nI (10 + i)) hx hb hr (fun tS ht hW => ⟨⟨(nI (10 + i)), (), rfl, (Or.inr ⟨i, hi, rfl, fun q => by subst q; have : N = 6 := eN; omega⟩), by rw [ht]; exact hP9, va_K.moved hW.alike hK9, hD9⟩, hS.F ht⟩) hS.2.2 dX23_wordOf_105
                · refine lv_aload_n hx hb dX23_wordOf_50 rfl (lv_at hl 4 rfl) ?_
                  refine va_get (D := (dC, dI)) (ci := 23) (v := .ref (mr 0)) (C := RX23) (T := TX23) (N := 89) hx hb hts in_c_rwo_X23 hown hK hP 0 rfl rfl 0 (by decide) (hts (.fieldLink RX23 7 "OwnedPlacesModel" "text" "[I") (wm_c_rwo 6 rfl)) (fun _ h9 => h9) rfl dX23_wordOf_51 ?_
                  refine lv_iload_n hx hb dX23_wordOf_54 rfl (lv_at hl 5 rfl) ?_
                  refine lv_iload hx hb dX23_wordOf_55 (lv_at hl 0 rfl) ?_
                  refine lv_iadd hx hb dX23_wordOf_57 ?_
                  refine lv_topi (fun f_3 ef_3 => ?_)
                  obtain rfl : f_3 = nI (a0 + k) := ef_3.trans (nI_add _ _)
                  refine va_iald hx hb hK hP 1 0 rfl rfl (vp_in_nI (show a0 + k < 3000 by omega) (by decide)) dX23_wordOf_58 ?_
                  refine lv_topi (fun v_4 ev_4 => ?_)
                  refine va_gets (v := .ref t0) hx hb hpre0.1.1 hS hown (hts (.fieldLink RX23 15 "OwnedPlacesModel" "WORDS" "[J") (wm_c_rwo 1 rfl)) (fun _ h9 => h9) dX23_wordOf_59 ?_
                  refine lv_iload_n hx hb dX23_wordOf_62 rfl (lv_at hl 3 rfl) ?_
                  refine va_tl (v := .long (wdL.getD i 0)) hx hb hpre0.1.2 hS (vp_in_nI hi (by decide)) (by rw [nI_clamp (by omega)]) dX23_wordOf_63 ?_
                  refine lv_bipush (v := 8) hx hb dX23_wordOf_64 (by decide) ?_
                  refine lv_iload hx hb dX23_wordOf_66 (lv_at hl 2 rfl) ?_
                  refine lv_iconst (v := 1) hx hb dX23_wordOf_68 (by decide) ?_
                  refine lv_isub hx hb dX23_wordOf_69 ?_
                  refine lv_topi (fun f_5 ef_5 => ?_)
                  obtain rfl : f_5 = nI (N - 1) := ef_5.trans (pk_sub (a := N) (b := 1) (by omega))
                  refine lv_iload hx hb dX23_wordOf_70 (lv_at hl 0 rfl) ?_
                  refine lv_isub hx hb dX23_wordOf_72 ?_
                  refine lv_topi (fun f_6 ef_6 => ?_)
                  obtain rfl : f_6 = nI (N - 1 - k) := ef_6.trans (pk_sub (a := N - 1) (b := k) (by omega))
                  refine lv_imul hx hb dX23_wordOf_73 ?_
                  refine lv_topi (fun f_7 ef_7 => ?_)
                  obtain ⟨f_8, ef_8⟩ : ∃ yY : Int64, yY = ((wdL.getD i 0 : Int64).toUInt64 >>> ((f_7 : Int32).toInt64.toUInt64 &&& Int64.toUInt64 63)).toInt64 := ⟨_, rfl⟩
                  refine lv_lushr (v := f_8) hx hb dX23_wordOf_74 ef_8.symm ?_
                  refine lv_ldc2 (v := 255) hx hb hown (hts (.constantLong RX23 23 255) (wm_c_rwo 7 rfl)) dX23_wordOf_75 ?_
                  refine lv_land hx hb dX23_wordOf_78 ?_
                  refine lv_topl (fun f_9 ef_9 => ?_)
                  obtain ⟨f_10, ef_10⟩ : ∃ yY : Int32, yY = (f_9 : Int64).toInt32 := ⟨_, rfl⟩
                  refine lv_l2i (v := f_10) hx hb dX23_wordOf_79 ef_10.symm ?_
                  refine lv_icmp_ne (tgt := 87) hx hb dX23_wordOf_80 (by decide) (fun hby => ?_) (fun hby => ?_)
                  · refine lv_iconst (v := 0) hx hb dX23_wordOf_87 (by decide) ?_
                    refine lv_istore (lv' := [(5, .int 0), (6, .int (nI k)), (4, .int (nI N)), (3, .int (nI i)), (0, .ref m9), (1, .int (nI a0)), (2, .int (nI b0))]) hx hb dX23_wordOf_88 hl (by decide) rfl (fun ls hl => ?_)
                    obtain ⟨x_11, ex_11⟩ : ∃ yY : Int32, yY = (nI k) + 1 := ⟨_, rfl⟩
                    refine lv_iinc (v := x_11) (lv' := [(6, .int x_11), (5, .int 0), (4, .int (nI N)), (3, .int (nI i)), (0, .ref m9), (1, .int (nI a0)), (2, .int (nI b0))]) hx hb dX23_wordOf_90 hl (k := 1) rfl (by rw [ex_11]; rfl) (by decide) rfl (fun ls hl => ?_)
                    obtain rfl : x_11 = nI (k + 1) := by rw [ex_11]; exact nI_1 k
                    have hl : lv_has ls 7 [(6, .int (nI (k + 1))), (5, .int 0), (4, .int (nI N)), (3, .int (nI i)), (0, .ref m9), (1, .int (nI a0)), (2, .int (nI b0))] := hl
                    refine lv_goto (tgt := 38) hx hb dX23_wordOf_93 (by decide) ?_
                    exact ih2 (k + 1) 0 _ _ _ (by omega) (hP.sub [0, 1] rfl) (hD.sub [0, 1] (by decide) rfl) hS (lv_sub hl [0, 1, 2, 3, 4, 5, 6] rfl)
                  · refine lv_iconst (v := 1) hx hb dX23_wordOf_83 (by decide) ?_
                    refine lv_goto (tgt := 88) hx hb dX23_wordOf_84 (by decide) ?_
                    refine lv_istore (lv' := [(5, .int 1), (6, .int (nI k)), (4, .int (nI N)), (3, .int (nI i)), (0, .ref m9), (1, .int (nI a0)), (2, .int (nI b0))]) hx hb dX23_wordOf_88 hl (by decide) rfl (fun ls hl => ?_)
                    obtain ⟨x_11, ex_11⟩ : ∃ yY : Int32, yY = (nI k) + 1 := ⟨_, rfl⟩
                    refine lv_iinc (v := x_11) (lv' := [(6, .int x_11), (5, .int 1), (4, .int (nI N)), (3, .int (nI i)), (0, .ref m9), (1, .int (nI a0)), (2, .int (nI b0))]) hx hb dX23_wordOf_90 hl (k := 1) rfl (by rw [ex_11]; rfl) (by decide) rfl (fun ls hl => ?_)
                    obtain rfl : x_11 = nI (k + 1) := by rw [ex_11]; exact nI_1 k
                    have hl : lv_has ls 7 [(6, .int (nI (k + 1))), (5, .int 1), (4, .int (nI N)), (3, .int (nI i)), (0, .ref m9), (1, .int (nI a0)), (2, .int (nI b0))] := hl
                    refine lv_goto (tgt := 38) hx hb dX23_wordOf_93 (by decide) ?_
                    exact ih2 (k + 1) 1 _ _ _ (by omega) (hP.sub [0, 1] rfl) (hD.sub [0, 1] (by decide) rfl) hS (lv_sub hl [0, 1, 2, 3, 4, 5, 6] rfl)
          exact key2 (N + 1) 0 1 _ _ _ (by omega) (hP.sub [0, 1] rfl) (hD.sub [0, 1] (by decide) rfl) hS (lv_sub hl [0, 1, 2, 3, 4, 5, 6] rfl)
  exact key1 20 0 _ _ _ (by omega) (hP.sub [0, 1] rfl) (hD.sub [0, 1] (by decide) rfl) hS (lv_sub hl [0, 1, 2, 3] rfl)
end
-- j1.f.lean.txt
section
def wf_c_radd : List Cond := [.code yX23_addToken cX23_addToken 6 none, .fieldLink RX23 25 "OwnedPlacesModel" "tokenKind" "[I", .fieldLink RX23 28 "OwnedPlacesModel" "tokens" "I", .fieldLink RX23 31 "OwnedPlacesModel" "tokenAt" "[I", .fieldLink RX23 34 "OwnedPlacesModel" "tokenEnd" "[I", .fieldLink RX23 37 "OwnedPlacesModel" "tokenNumber" "[J"]
def wp_c_radd : List Cond := wf_c_radd ++ (wsX230 ++ [])
theorem in_c_radd_X23 : ∀ w ∈ wsX230, w ∈ wp_c_radd := fun w h => List.mem_append_right _ (List.mem_append_left _ h)
theorem wg_c_radd : wf_c_radd.all goodWord = true := by decide +kernel
theorem wm_c_radd (k : Nat) {w : Cond} (h : wp_c_radd[k]? = some w) : w ∈ wp_c_radd := List.mem_of_getElem? h
set_option maxHeartbeats 4000000 in
set_option maxRecDepth 100000 in
theorem c_radd (l : Launch) (dC : Nat → ClassId) (dI : Nat → Nat → Nat) (m9 : Nat) (mr : Nat → Nat) (mv : Nat → Int32) (vf : Value) (xl xf xa xp xi xt xn xe xv xb : Int32) (zs tk : Nat) (kI kL : ClassId) (ft fk fa fe : Nat → Int32) (fn : Nat → Int64) (kd x y : Int32) (z : Int64) (sz : Nat) (htk : tk < 3002) : Met l yX23_addToken wp_c_radd ({ frames := 0, cells := 0, slots := 0, locals := 0 }) (va_Pc [.ref m9, .int kd, .int x, .int y, .long z] (fun U => U.heap.size = sz ∧ va_P (dC, dI) vwCl [(m9, .inr (23, mA mr mv vf xl (nI zs) xf xa (nI tk) xp xi xt xn xe xv xb)), (mr 5, .inl (kI, 3002, .inl fk)), (mr 6, .inl (kI, 3002, .inl fa)), (mr 7, .inl (kI, 3002, .inl fe)), (mr 8, .inl (kL, 3002, .inr (.inl fn)))] U.heap ∧ va_K (dC, dI) vwCl [(kI, .int), (kL, .long)] U ∧ va_D (fun _ => True) [(m9, .inr (23, mA mr mv vf xl (nI zs) xf xa (nI tk) xp xi xt xn xe xv xb)), (mr 5, .inl (kI, 3002, .inl fk)), (mr 6, .inl (kI, 3002, .inl fa)), (mr 7, .inl (kI, 3002, .inl fe)), (mr 8, .inl (kL, 3002, .inr (.inl fn)))])) (va_Qv (fun _ : Unit => True) (fun (_ : Unit) (tS : State) => ∃ (gn : Nat → Int64), va_P (dC, dI) vwCl [(m9, .inr (23, mA mr mv vf xl (nI zs) xf xa (nI (tk + 1)) xp xi xt xn xe xv xb)), (mr 5, .inl (kI, 3002, .inl (upd fk tk kd))), (mr 6, .inl (kI, 3002, .inl (upd fa tk x))), (mr 7, .inl (kI, 3002, .inl (upd fe tk y))), (mr 8, .inl (kL, 3002, .inr (.inl gn)))] tS.heap ∧ va_K (dC, dI) vwCl [(kI, .int), (kL, .long)] tS ∧ va_D (va_A [(m9, .inr (23, mA mr mv vf xl (nI zs) xf xa (nI tk) xp xi xt xn xe xv xb)), (mr 5, .inl (kI, 3002, .inl fk)), (mr 6, .inl (kI, 3002, .inl fa)), (mr 7, .inl (kI, 3002, .inl fe)), (mr 8, .inl (kL, 3002, .inr (.inl fn)))] sz) [(m9, .inr (23, mA mr mv vf xl (nI zs) xf xa (nI (tk + 1)) xp xi xt xn xe xv xb)), (mr 5, .inl (kI, 3002, .inl (upd fk tk kd))), (mr 6, .inl (kI, 3002, .inl (upd fa tk x))), (mr 7, .inl (kI, 3002, .inl (upd fe tk y))), (mr 8, .inl (kL, 3002, .inr (.inl gn)))]) (va_A [(m9, .inr (23, mA mr mv vf xl (nI zs) xf xa (nI tk) xp xi xt xn xe xv xb)), (mr 5, .inl (kI, 3002, .inl fk)), (mr 6, .inl (kI, 3002, .inl fa)), (mr 7, .inl (kI, 3002, .inl fe)), (mr 8, .inl (kL, 3002, .inr (.inl fn)))] sz)) 0 0 (va_A [(m9, .inr (23, mA mr mv vf xl (nI zs) xf xa (nI tk) xp xi xt xn xe xv xb)), (mr 5, .inl (kI, 3002, .inl fk)), (mr 6, .inl (kI, 3002, .inl fa)), (mr 7, .inl (kI, 3002, .inl fe)), (mr 8, .inl (kL, 3002, .inr (.inl fn)))] sz) := by
  refine Met.ofW (cc := cX23_addToken) (maxL := 6) (ret := none) (by decide) rfl ?_
  intro p e s m args below meth c s₁ B hml hv
  obtain ⟨rfl, hsz, hP, hK, hD0⟩ := hv
  have hx := B.exec
  have hb := B.bytes
  have hr := B.returns
  have hts := atoms_spec (ws := wp_c_radd) B.pre
  have hown : s.vm.findClass RX23 = some m.cls := findClass_of_methodNamed B.named
  have hlocks := B.notSynchronized
  subst hsz
  have hD := hD0.self (sz := s.heap.size)
  generalize hAe : va_A [(m9, .inr (23, mA mr mv vf xl (nI zs) xf xa (nI tk) xp xi xt xn xe xv xb)), (mr 5, .inl (kI, 3002, .inl fk)), (mr 6, .inl (kI, 3002, .inl fa)), (mr 7, .inl (kI, 3002, .inl fe)), (mr 8, .inl (kL, 3002, .inr (.inl fn)))] s.heap.size = A at hD ⊢
  have hA : ∀ q : Nat, s.heap.size ≤ q → A q := fun q h => by rw [← hAe]; exact Or.inr h
  have hS : va_S A s.heap s.heap [] := va_S.rf
  have hP : va_P (dC, dI) vwCl [(m9, .inr (23, mA mr mv vf xl (nI zs) xf xa (nI tk) xp xi xt xn xe xv xb)), (mr 5, .inl (kI, 3002, .inl fk)), (mr 6, .inl (kI, 3002, .inl fa)), (mr 7, .inl (kI, 3002, .inl fe)), (mr 8, .inl (kL, 3002, .inr (.inl fn)))] s.heap := hP
  have hl := lv_entry ([.ref m9, .int kd, .int x, .int y, .long z]) (n := 6) (Nat.le_of_ble_eq_true rfl)
  rw [lg_entry_eq]
  generalize (lg_sl ([.ref m9, .int kd, .int x, .int y, .long z]) ++ List.replicate (6 - (lg_sl ([.ref m9, .int kd, .int x, .int y, .long z])).length) Slot.unset).toArray = ls at hl ⊢
  have hl : lv_has ls 6 [(0, .ref m9), (1, .int kd), (2, .int x), (3, .int y), (4, .long z)] := hl
  refine lv_aload_n hx hb dX23_addToken_0 rfl (lv_at hl 0 rfl) ?_
  refine va_get (D := (dC, dI)) (ci := 23) (v := .ref (mr 5)) (C := RX23) (T := TX23) (N := 89) hx hb hts in_c_radd_X23 hown hK hP 0 rfl rfl 5 (by decide) (hts (.fieldLink RX23 25 "OwnedPlacesModel" "tokenKind" "[I") (wm_c_radd 1 rfl)) (fun _ h9 => h9) rfl dX23_addToken_1 ?_
  refine lv_aload_n hx hb dX23_addToken_4 rfl (lv_at hl 0 rfl) ?_
  refine va_get (D := (dC, dI)) (ci := 23) (v := .int (nI tk)) (C := RX23) (T := TX23) (N := 89) hx hb hts in_c_radd_X23 hown hK hP 0 rfl rfl 9 (by decide) (hts (.fieldLink RX23 28 "OwnedPlacesModel" "tokens" "I") (wm_c_radd 2 rfl)) (fun _ h9 => h9) rfl dX23_addToken_5 ?_
  refine lv_iload_n hx hb dX23_addToken_8 rfl (lv_at hl 1 rfl) ?_
  refine va_iast hx hb hK hP hD hS 1 0 rfl rfl (vp_in_nI htk (by decide)) dX23_addToken_9 (fun H locs hP hD hS => ?_)
  have hP : va_P (dC, dI) vwCl [(m9, .inr (23, mA mr mv vf xl (nI zs) xf xa (nI tk) xp xi xt xn xe xv xb)), (mr 5, .inl (kI, 3002, .inl (upd fk (nI tk : Int32).toNatClampNeg kd))), (mr 6, .inl (kI, 3002, .inl fa)), (mr 7, .inl (kI, 3002, .inl fe)), (mr 8, .inl (kL, 3002, .inr (.inl fn)))] H := hP
  have hD : va_D A [(m9, .inr (23, mA mr mv vf xl (nI zs) xf xa (nI tk) xp xi xt xn xe xv xb)), (mr 5, .inl (kI, 3002, .inl (upd fk (nI tk : Int32).toNatClampNeg kd))), (mr 6, .inl (kI, 3002, .inl fa)), (mr 7, .inl (kI, 3002, .inl fe)), (mr 8, .inl (kL, 3002, .inr (.inl fn)))] := hD
  obtain ⟨k1, ek1⟩ : ∃ zZ : Nat → Int32, zZ = upd fk (nI tk : Int32).toNatClampNeg kd := ⟨_, rfl⟩
  rw [← ek1] at hP hD
  obtain rfl : k1 = upd fk tk kd := by rw [ek1, nI_clamp (by omega)]
  have hP : va_P (dC, dI) vwCl [(m9, .inr (23, mA mr mv vf xl (nI zs) xf xa (nI tk) xp xi xt xn xe xv xb)), (mr 5, .inl (kI, 3002, .inl (upd fk tk kd))), (mr 6, .inl (kI, 3002, .inl fa)), (mr 7, .inl (kI, 3002, .inl fe)), (mr 8, .inl (kL, 3002, .inr (.inl fn)))] H := hP
  have hD : va_D A [(m9, .inr (23, mA mr mv vf xl (nI zs) xf xa (nI tk) xp xi xt xn xe xv xb)), (mr 5, .inl (kI, 3002, .inl (upd fk tk kd))), (mr 6, .inl (kI, 3002, .inl fa)), (mr 7, .inl (kI, 3002, .inl fe)), (mr 8, .inl (kL, 3002, .inr (.inl fn)))] := hD
  refine lv_aload_n hx hb dX23_addToken_10 rfl (lv_at hl 0 rfl) ?_
  refine va_get (D := (dC, dI)) (ci := 23) (v := .ref (mr 6)) (C := RX23) (T := TX23) (N := 89) hx hb hts in_c_radd_X23 hown hK hP 0 rfl rfl 6 (by decide) (hts (.fieldLink RX23 31 "OwnedPlacesModel" "tokenAt" "[I") (wm_c_radd 3 rfl)) (fun _ h9 => h9) rfl dX23_addToken_11 ?_
  refine lv_aload_n hx hb dX23_addToken_14 rfl (lv_at hl 0 rfl) ?_
  refine va_get (D := (dC, dI)) (ci := 23) (v := .int (nI tk)) (C := RX23) (T := TX23) (N := 89) hx hb hts in_c_radd_X23 hown hK hP 0 rfl rfl 9 (by decide) (hts (.fieldLink RX23 28 "OwnedPlacesModel" "tokens" "I") (wm_c_radd 2 rfl)) (fun _ h9 => h9) rfl dX23_addToken_15 ?_
  refine lv_iload_n hx hb dX23_addToken_18 rfl (lv_at hl 2 rfl) ?_
  refine va_iast hx hb hK hP hD hS 2 0 rfl rfl (vp_in_nI htk (by decide)) dX23_addToken_19 (fun H locs hP hD hS => ?_)
  have hP : va_P (dC, dI) vwCl [(m9, .inr (23, mA mr mv vf xl (nI zs) xf xa (nI tk) xp xi xt xn xe xv xb)), (mr 5, .inl (kI, 3002, .inl (upd fk tk kd))), (mr 6, .inl (kI, 3002, .inl (upd fa (nI tk : Int32).toNatClampNeg x))), (mr 7, .inl (kI, 3002, .inl fe)), (mr 8, .inl (kL, 3002, .inr (.inl fn)))] H := hP
  have hD : va_D A [(m9, .inr (23, mA mr mv vf xl (nI zs) xf xa (nI tk) xp xi xt xn xe xv xb)), (mr 5, .inl (kI, 3002, .inl (upd fk tk kd))), (mr 6, .inl (kI, 3002, .inl (upd fa (nI tk : Int32).toNatClampNeg x))), (mr 7, .inl (kI, 3002, .inl fe)), (mr 8, .inl (kL, 3002, .inr (.inl fn)))] := hD
  obtain ⟨a1, ea1⟩ : ∃ zZ : Nat → Int32, zZ = upd fa (nI tk : Int32).toNatClampNeg x := ⟨_, rfl⟩
  rw [← ea1] at hP hD
  obtain rfl : a1 = upd fa tk x := by rw [ea1, nI_clamp (by omega)]
  have hP : va_P (dC, dI) vwCl [(m9, .inr (23, mA mr mv vf xl (nI zs) xf xa (nI tk) xp xi xt xn xe xv xb)), (mr 5, .inl (kI, 3002, .inl (upd fk tk kd))), (mr 6, .inl (kI, 3002, .inl (upd fa tk x))), (mr 7, .inl (kI, 3002, .inl fe)), (mr 8, .inl (kL, 3002, .inr (.inl fn)))] H := hP
  have hD : va_D A [(m9, .inr (23, mA mr mv vf xl (nI zs) xf xa (nI tk) xp xi xt xn xe xv xb)), (mr 5, .inl (kI, 3002, .inl (upd fk tk kd))), (mr 6, .inl (kI, 3002, .inl (upd fa tk x))), (mr 7, .inl (kI, 3002, .inl fe)), (mr 8, .inl (kL, 3002, .inr (.inl fn)))] := hD
  refine lv_aload_n hx hb dX23_addToken_20 rfl (lv_at hl 0 rfl) ?_
  refine va_get (D := (dC, dI)) (ci := 23) (v := .ref (mr 7)) (C := RX23) (T := TX23) (N := 89) hx hb hts in_c_radd_X23 hown hK hP 0 rfl rfl 7 (by decide) (hts (.fieldLink RX23 34 "OwnedPlacesModel" "tokenEnd" "[I") (wm_c_radd 4 rfl)) (fun _ h9 => h9) rfl dX23_addToken_21 ?_
  refine lv_aload_n hx hb dX23_addToken_24 rfl (lv_at hl 0 rfl) ?_
  refine va_get (D := (dC, dI)) (ci := 23) (v := .int (nI tk)) (C := RX23) (T := TX23) (N := 89) hx hb hts in_c_radd_X23 hown hK hP 0 rfl rfl 9 (by decide) (hts (.fieldLink RX23 28 "OwnedPlacesModel" "tokens" "I") (wm_c_radd 2 rfl)) (fun _ h9 => h9) rfl dX23_addToken_25 ?_
  refine lv_iload_n hx hb dX23_addToken_28 rfl (lv_at hl 3 rfl) ?_
  refine va_iast hx hb hK hP hD hS 3 0 rfl rfl (vp_in_nI htk (by decide)) dX23_addToken_29 (fun H locs hP hD hS => ?_)
  have hP : va_P (dC, dI) vwCl [(m9, .inr (23, mA mr mv vf xl (nI zs) xf xa (nI tk) xp xi xt xn xe xv xb)), (mr 5, .inl (kI, 3002, .inl (upd fk tk kd))), (mr 6, .inl (kI, 3002, .inl (upd fa tk x))), (mr 7, .inl (kI, 3002, .inl (upd fe (nI tk : Int32).toNatClampNeg y))), (mr 8, .inl (kL, 3002, .inr (.inl fn)))] H := hP
  have hD : va_D A [(m9, .inr (23, mA mr mv vf xl (nI zs) xf xa (nI tk) xp xi xt xn xe xv xb)), (mr 5, .inl (kI, 3002, .inl (upd fk tk kd))), (mr 6, .inl (kI, 3002, .inl (upd fa tk x))), (mr 7, .inl (kI, 3002, .inl (upd fe (nI tk : Int32).toNatClampNeg y))), (mr 8, .inl (kL, 3002, .inr (.inl fn)))] := hD
  obtain ⟨e1, ee1⟩ : ∃ zZ : Nat → Int32, zZ = upd fe (nI tk : Int32).toNatClampNeg y := ⟨_, rfl⟩
  rw [← ee1] at hP hD
  obtain rfl : e1 = upd fe tk y := by rw [ee1, nI_clamp (by omega)]
  have hP : va_P (dC, dI) vwCl [(m9, .inr (23, mA mr mv vf xl (nI zs) xf xa (nI tk) xp xi xt xn xe xv xb)), (mr 5, .inl (kI, 3002, .inl (upd fk tk kd))), (mr 6, .inl (kI, 3002, .inl (upd fa tk x))), (mr 7, .inl (kI, 3002, .inl (upd fe tk y))), (mr 8, .inl (kL, 3002, .inr (.inl fn)))] H := hP
  have hD : va_D A [(m9, .inr (23, mA mr mv vf xl (nI zs) xf xa (nI tk) xp xi xt xn xe xv xb)), (mr 5, .inl (kI, 3002, .inl (upd fk tk kd))), (mr 6, .inl (kI, 3002, .inl (upd fa tk x))), (mr 7, .inl (kI, 3002, .inl (upd fe tk y))), (mr 8, .inl (kL, 3002, .inr (.inl fn)))] := hD
  refine lv_aload_n hx hb dX23_addToken_30 rfl (lv_at hl 0 rfl) ?_
  refine va_get (D := (dC, dI)) (ci := 23) (v := .ref (mr 8)) (C := RX23) (T := TX23) (N := 89) hx hb hts in_c_radd_X23 hown hK hP 0 rfl rfl 8 (by decide) (hts (.fieldLink RX23 37 "OwnedPlacesModel" "tokenNumber" "[J") (wm_c_radd 5 rfl)) (fun _ h9 => h9) rfl dX23_addToken_31 ?_
  refine lv_aload_n hx hb dX23_addToken_34 rfl (lv_at hl 0 rfl) ?_
  refine va_get (D := (dC, dI)) (ci := 23) (v := .int (nI tk)) (C := RX23) (T := TX23) (N := 89) hx hb hts in_c_radd_X23 hown hK hP 0 rfl rfl 9 (by decide) (hts (.fieldLink RX23 28 "OwnedPlacesModel" "tokens" "I") (wm_c_radd 2 rfl)) (fun _ h9 => h9) rfl dX23_addToken_35 ?_
  refine lv_lload hx hb dX23_addToken_38 (lv_at hl 4 rfl) ?_
  refine va_last hx hb hK hP hD hS 4 1 rfl rfl (vp_in_nI htk (by decide)) dX23_addToken_40 (fun H locs hP hD hS => ?_)
  have hP : va_P (dC, dI) vwCl [(m9, .inr (23, mA mr mv vf xl (nI zs) xf xa (nI tk) xp xi xt xn xe xv xb)), (mr 5, .inl (kI, 3002, .inl (upd fk tk kd))), (mr 6, .inl (kI, 3002, .inl (upd fa tk x))), (mr 7, .inl (kI, 3002, .inl (upd fe tk y))), (mr 8, .inl (kL, 3002, .inr (.inl (vp_updL fn (nI tk : Int32).toNatClampNeg z))))] H := hP
  have hD : va_D A [(m9, .inr (23, mA mr mv vf xl (nI zs) xf xa (nI tk) xp xi xt xn xe xv xb)), (mr 5, .inl (kI, 3002, .inl (upd fk tk kd))), (mr 6, .inl (kI, 3002, .inl (upd fa tk x))), (mr 7, .inl (kI, 3002, .inl (upd fe tk y))), (mr 8, .inl (kL, 3002, .inr (.inl (vp_updL fn (nI tk : Int32).toNatClampNeg z))))] := hD
  obtain ⟨l1, el1⟩ : ∃ zZ : Nat → Int64, zZ = vp_updL fn (nI tk : Int32).toNatClampNeg z := ⟨_, rfl⟩
  rw [← el1] at hP hD
  refine lv_aload_n hx hb dX23_addToken_41 rfl (lv_at hl 0 rfl) ?_
  refine lv_dup hx hb dX23_addToken_42 rfl ?_
  refine va_get (D := (dC, dI)) (ci := 23) (v := .int (nI tk)) (C := RX23) (T := TX23) (N := 89) hx hb hts in_c_radd_X23 hown hK hP 0 rfl rfl 9 (by decide) (hts (.fieldLink RX23 28 "OwnedPlacesModel" "tokens" "I") (wm_c_radd 2 rfl)) (fun _ h9 => h9) rfl dX23_addToken_43 ?_
  refine lv_iconst (v := 1) hx hb dX23_addToken_46 (by decide) ?_
  refine lv_iadd hx hb dX23_addToken_47 ?_
  refine lv_topi (fun f_1 ef_1 => ?_)
  obtain rfl : f_1 = nI (tk + 1) := ef_1.trans (nI_1 _)
  refine va_put (D := (dC, dI)) (ci := 23) (v := .int (nI (tk + 1))) (ty := .int) (C := RX23) (T := TX23) (N := 89) hx hb hts in_c_radd_X23 tyX23 tyX23_ok nmX23 hown hK hP hD hS 0 rfl rfl 9 (by decide) (hts (.fieldLink RX23 28 "OwnedPlacesModel" "tokens" "I") (wm_c_radd 2 rfl)) (fun _ h9 => h9) rfl (by decide +kernel) rfl rfl (Nat.le_of_ble_eq_true rfl) dX23_addToken_48 (fun H locs hP hD hS => ?_)
  have hP : va_P (dC, dI) vwCl [(m9, .inr (23, mA mr mv vf xl (nI zs) xf xa (nI (tk + 1)) xp xi xt xn xe xv xb)), (mr 5, .inl (kI, 3002, .inl (upd fk tk kd))), (mr 6, .inl (kI, 3002, .inl (upd fa tk x))), (mr 7, .inl (kI, 3002, .inl (upd fe tk y))), (mr 8, .inl (kL, 3002, .inr (.inl l1)))] H := hP
  have hD : va_D A [(m9, .inr (23, mA mr mv vf xl (nI zs) xf xa (nI (tk + 1)) xp xi xt xn xe xv xb)), (mr 5, .inl (kI, 3002, .inl (upd fk tk kd))), (mr 6, .inl (kI, 3002, .inl (upd fa tk x))), (mr 7, .inl (kI, 3002, .inl (upd fe tk y))), (mr 8, .inl (kL, 3002, .inr (.inl l1)))] := hD
  have hP9 := hP.sub (ws' := [(m9, .inr (23, mA mr mv vf xl (nI zs) xf xa (nI (tk + 1)) xp xi xt xn xe xv xb)), (mr 5, .inl (kI, 3002, .inl (upd fk tk kd))), (mr 6, .inl (kI, 3002, .inl (upd fa tk x))), (mr 7, .inl (kI, 3002, .inl (upd fe tk y))), (mr 8, .inl (kL, 3002, .inr (.inl l1)))]) [0, 1, 2, 3, 4] rfl
  have hD9 := hD.sub (ws' := [(m9, .inr (23, mA mr mv vf xl (nI zs) xf xa (nI (tk + 1)) xp xi xt xn xe xv xb)), (mr 5, .inl (kI, 3002, .inl (upd fk tk kd))), (mr 6, .inl (kI, 3002, .inl (upd fa tk x))), (mr 7, .inl (kI, 3002, .inl (upd fe tk y))), (mr 8, .inl (kL, 3002, .inr (.inl l1)))]) [0, 1, 2, 3, 4] (by decide) rfl
  have hK9 := hK.sub (tys' := [(kI, .int), (kL, .long)]) [0, 1] rfl
  exact W.vret hx hb hr (fun tS ht hW => ⟨⟨(), rfl, trivial, l1, by rw [ht]; exact hP9, va_K.moved hW.alike hK9, hD9⟩, hS.F ht⟩) hS.2.2 dX23_addToken_51
end
