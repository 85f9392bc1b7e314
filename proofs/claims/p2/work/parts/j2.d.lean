def wf_c_nW : List Cond := [.code yX22_init cX22_init 1 none, .methodLink RX22 1 objectInit, .instanceMethod objectInit, .code objectInit ⟨#[0xb1]⟩ 1 none, .fieldLink RX22 7 "OwnedPlacesModel$Written" "life" "I"]
def wp_c_nW : List Cond := wf_c_nW ++ (wsX220 ++ [])
theorem in_c_nW_X22 : ∀ w ∈ wsX220, w ∈ wp_c_nW := fun w h => List.mem_append_right _ (List.mem_append_left _ h)
theorem wg_c_nW : wf_c_nW.all goodWord = true := by decide +kernel
theorem wm_c_nW (k : Nat) {w : Cond} (h : wp_c_nW[k]? = some w) : w ∈ wp_c_nW := List.mem_of_getElem? h
set_option maxHeartbeats 4000000 in
set_option maxRecDepth 100000 in
theorem c_nW (l : Launch) (dC : Nat → ClassId) (dI : Nat → Nat → Nat) (q : Nat) (sz : Nat) : Met l yX22_init wp_c_nW ({ frames := 1, cells := 0, slots := 0, locals := 12 }) (va_Pc [.ref q] (fun U => U.heap.size = sz ∧ va_P (dC, dI) vwCl [(q, .inr (22, [.int 0, .int 0, .int 0, .int 0, .null]))] U.heap ∧ va_K (dC, dI) vwCl [] U ∧ va_D (fun _ => True) [(q, .inr (22, [.int 0, .int 0, .int 0, .int 0, .null]))])) (va_Qv (fun _ : Unit => True) (fun (_ : Unit) (tS : State) => va_P (dC, dI) vwCl [(q, .inr (22, [.int 0, .int 0, .int 0, .int (-1), .null]))] tS.heap ∧ va_K (dC, dI) vwCl [] tS ∧ va_D (va_A [(q, .inr (22, [.int 0, .int 0, .int 0, .int 0, .null]))] sz) [(q, .inr (22, [.int 0, .int 0, .int 0, .int (-1), .null]))]) (va_A [(q, .inr (22, [.int 0, .int 0, .int 0, .int 0, .null]))] sz)) 0 0 (va_A [(q, .inr (22, [.int 0, .int 0, .int 0, .int 0, .null]))] sz) := by
  refine Met.ofW (cc := cX22_init) (maxL := 1) (ret := none) (by decide) rfl ?_
  intro p e s m args below meth c s₁ B hml hv
  obtain ⟨rfl, hsz, hP, hK, hD0⟩ := hv
  have hx := B.exec
  have hb := B.bytes
  have hr := B.returns
  have hts := atoms_spec (ws := wp_c_nW) B.pre
  have hown : s.vm.findClass RX22 = some m.cls := findClass_of_methodNamed B.named
  have hlocks := B.notSynchronized
  have hin : meth.name = "<init>" := (name_of_methodNamed B.named B.method).1
  subst hsz
  have hD := hD0.self (sz := s.heap.size)
  generalize hAe : va_A [(q, .inr (22, [.int 0, .int 0, .int 0, .int 0, .null]))] s.heap.size = A at hD ⊢
  have hA : ∀ q : Nat, s.heap.size ≤ q → A q := fun q h => by rw [← hAe]; exact Or.inr h
  have hS : va_S A s.heap s.heap [] := va_S.rf
  have hP : va_P (dC, dI) vwCl [(q, .inr (22, [.int 0, .int 0, .int 0, .int 0, .null]))] s.heap := hP
  have hl := lv_entry ([.ref q]) (n := 1) (Nat.le_of_ble_eq_true rfl)
  rw [lg_entry_eq]
  generalize (lg_sl ([.ref q]) ++ List.replicate (1 - (lg_sl ([.ref q])).length) Slot.unset).toArray = ls at hl ⊢
  have hl : lv_has ls 1 [(0, .ref q)] := hl
  refine lv_aload_n hx hb dX22_init_0 rfl (lv_at hl 0 rfl) ?_
  refine W.objInit hx hb hown (hts (.methodLink RX22 1 objectInit) (wm_c_nW 1 rfl)) (hts (.instanceMethod objectInit) (wm_c_nW 2 rfl)) (hts (.code objectInit ⟨#[0xb1]⟩ 1 none) (wm_c_nW 3 rfl)) rfl (by rw [hml]; exact hl.1) rfl dX22_init_1 (Nat.le_of_ble_eq_true rfl) (Nat.le_of_ble_eq_true rfl) ?_
  refine W.eq (g2 := F0 m 4 ls []) rfl ?_
  refine lv_aload_n hx hb dX22_init_4 rfl (lv_at hl 0 rfl) ?_
  refine lv_iconst (v := (-1)) hx hb dX22_init_5 (by decide) ?_
  refine va_put (D := (dC, dI)) (ci := 22) (v := .int (-1)) (ty := .int) (C := RX22) (T := TX22) (N := 5) hx hb hts in_c_nW_X22 tyX22 tyX22_ok nmX22 hown hK hP hD hS 0 rfl rfl 3 (by decide) (hts (.fieldLink RX22 7 "OwnedPlacesModel$Written" "life" "I") (wm_c_nW 4 rfl)) (fun _ h9 => h9) rfl (by decide +kernel) rfl rfl (Nat.le_of_ble_eq_true rfl) dX22_init_6 (fun H locs hP hD hS => ?_)
  have hP : va_P (dC, dI) vwCl [(q, .inr (22, [.int 0, .int 0, .int 0, .int (-1), .null]))] H := hP
  have hD : va_D A [(q, .inr (22, [.int 0, .int 0, .int 0, .int (-1), .null]))] := hD
  have hP9 := hP.sub (ws' := [(q, .inr (22, [.int 0, .int 0, .int 0, .int (-1), .null]))]) [0] rfl
  have hD9 := hD.sub (ws' := [(q, .inr (22, [.int 0, .int 0, .int 0, .int (-1), .null]))]) [0] (by decide) rfl
  have hK9 := hK.sub (tys' := []) [] rfl
  exact W.vret hx hb hr (fun tS ht hW => ⟨⟨(), rfl, trivial, by rw [ht]; exact hP9, va_K.moved hW.alike hK9, hD9⟩, hS.F ht⟩) hS.2.2 dX22_init_9
/-- a type as it was written: the tokens p to q -/
def isT (L : List Nat) (F : Nat → va_E) (fk : Nat → Int32) : Nat → Nat → Nat → Nat → Prop
  | 0, _, _, _ => False
  | n + 1, a, p, q => a ∈ L ∧ ((F a = .inr (22, [.int (fk p), .int (nI p), .int 0, .int (-1), .null]) ∧ (fk p = 26 ∨ fk p = 27 ∨ fk p = 25 ∨ fk p = 2) ∧ q = p + 1) ∨
      (fk p = 23 ∧ ∃ o : Nat, F a = .inr (22, [.int (fk p), .int (nI p), .int 0, .int (-1), .ref o]) ∧ isT L F fk n o (p + 1) q) ∨
      (fk p = 55 ∧ ∃ (o p' : Nat) (mu lf : Int32), F a = .inr (22, [.int (fk p), .int (nI p), .int mu, .int lf, .ref o]) ∧ p < p' ∧ (mu = 0 ∨ mu = 1) ∧ (lf = -1 ∨ lf = nI (p + 1)) ∧ isT L F fk n o p' q))
theorem isT_lt {L : List Nat} {F : Nat → va_E} {fk : Nat → Int32} : ∀ {n a p q : Nat}, isT L F fk n a p q → p < q
  | 0, _, _, _, h => h.elim
  | n + 1, a, p, q, h => by
    rcases h.2 with ⟨_, _, h⟩ | ⟨_, o, _, h⟩ | ⟨_, o, p', _, _, _, h1, _, _, h⟩
    · omega
    · have := isT_lt h; omega
    · have := isT_lt h; omega
theorem isT_ex {L L2 : List Nat} {F F2 : Nat → va_E} {fk : Nat → Int32} (hx : exS L F L2 F2) : ∀ {n a p q : Nat}, isT L F fk n a p q → isT L2 F2 fk n a p q
  | 0, _, _, _, h => h.elim
  | n + 1, a, p, q, h => by
    obtain ⟨h1, h2⟩ := hx a h.1
    refine ⟨h1, ?_⟩
    rw [h2]
    rcases h.2 with h | ⟨h0, o, h, g⟩ | ⟨h0, o, p', mu, lf, h, g1, g2, g3, g⟩
    · exact Or.inl h
    · exact Or.inr (Or.inl ⟨h0, o, h, isT_ex hx g⟩)
    · exact Or.inr (Or.inr ⟨h0, o, p', mu, lf, h, g1, g2, g3, isT_ex hx g⟩)
theorem isT_up {L : List Nat} {F : Nat → va_E} {fk : Nat → Int32} : ∀ {n a p q : Nat}, isT L F fk n a p q → isT L F fk (n + 1) a p q
  | 0, _, _, _, h => h.elim
  | n + 1, a, p, q, h => by
    refine ⟨h.1, ?_⟩
    rcases h.2 with h | ⟨h0, o, h, g⟩ | ⟨h0, o, p', mu, lf, h, g1, g2, g3, g⟩
    · exact Or.inl h
    · exact Or.inr (Or.inl ⟨h0, o, h, isT_up g⟩)
    · exact Or.inr (Or.inr ⟨h0, o, p', mu, lf, h, g1, g2, g3, isT_up g⟩)
theorem isT_le {L : List Nat} {F : Nat → va_E} {fk : Nat → Int32} {n m a p q : Nat} (h : isT L F fk n a p q) (hm : n ≤ m) : isT L F fk m a p q := by
  obtain ⟨d, rfl⟩ : ∃ d, m = n + d := ⟨m - n, by omega⟩
  clear hm
  induction d with
  | zero => exact h
  | succ d ih => exact isT_up ih
