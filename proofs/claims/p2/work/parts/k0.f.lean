/-- a step that gives a state and a value -/
abbrev bnd {α β : Type} (x : Option (Sg × α)) (g : Sg → α → Option β) : Option β := x.bind fun q => g q.1 q.2
section XJ
variable {p : Program} {l : Launch} {e : Env} {R : Room} {s : State} {m : MethodId} {args : Array Value} {below : List Frame} {meth : Method} {c : Code} {Q : State → Prop} {D : va_G} {A : Nat → Prop} {K : Ky} {m9 : Nat} {mr : Nat → Nat} {own mn : String} {cc : ByteArray} {nL : Nat} {Ts : List Cond} {ret : Option FieldType} {fr lo : Nat} {S0 Sf : Sg} {rv : Option Value}
variable {S : Sg} {pc : Nat} {lv : List (Nat × Value)} {st : List Value} {ρ : Type} {Rr : ρ}
theorem okO_of {S : Sg} {ci b : Nat} (h : okO S ci (some b) = true) : b ∈ ZL S ∧ ∃ vs : List Value, ZF S b = .inr (ci, vs) := by
  have h1 : (decide (b ∈ ZL S) && (match ZF S b with
    | .inl _ => false
    | .inr (d, _) => d == ci)) = true := h
  rw [Bool.and_eq_true] at h1
  refine ⟨of_decide_eq_true h1.1, ?_⟩
  have h2 := h1.2
  cases e : ZF S b with
  | inl x => rw [e] at h2; cases h2
  | inr x => obtain ⟨d, fs⟩ := x; rw [e] at h2; exact ⟨fs, by rw [show d = ci from by simpa using h2]⟩
theorem okO_mk {S : Sg} {ci b : Nat} {vs : List Value} (h : b ∈ ZL S) (hF : ZF S b = .inr (ci, vs)) : okO S ci (some b) = true := by
  show (decide (b ∈ ZL S) && (match ZF S b with
    | .inl _ => false
    | .inr (d, _) => d == ci)) = true
  rw [hF, decide_eq_true h]; simp
theorem okA_of {K : Ky} {S : Sg} {b : Nat} (h : okA K S (some b) = true) : b ∈ ZL S ∧ ∃ (n : Nat) (f : Nat → Int32), ZF S b = .inl (K.1 0, n, .inl f) := by
  have h1 : (decide (b ∈ ZL S) && (match ZF S b with
    | .inl (cA, _, .inl _) => cA == K.1 0
    | _ => false)) = true := h
  rw [Bool.and_eq_true] at h1
  refine ⟨of_decide_eq_true h1.1, ?_⟩
  have h2 := h1.2
  match e : ZF S b, h2 with
  | .inl (cA, n, .inl f), h2 => exact ⟨n, f, by rw [show cA = K.1 0 from by simpa using h2]⟩
theorem okA_mk {K : Ky} {S : Sg} {b n : Nat} {f : Nat → Int32} (h : b ∈ ZL S) (hF : ZF S b = .inl (K.1 0, n, .inl f)) : okA K S (some b) = true := by
  show (decide (b ∈ ZL S) && (match ZF S b with
    | .inl (cA, _, .inl _) => cA == K.1 0
    | _ => false)) = true
  rw [hF, decide_eq_true h]; simp
theorem er_at {L : List Nat} {F : Nat → va_E} {a b : Nat} (h : b ∈ L) (hn : b ≠ a) {x : Nat × va_E} : ∃ j : Nat, ([x] ++ sT (L.erase a) F)[j]? = some (b, F b) := List.mem_iff_getElem?.mp (List.mem_append_right _ (sT_mem ((List.mem_erase_of_ne hn).mpr h)))
theorem x_wQ (C : CX p l e R s m args below meth c Q D A K m9 mr own mn cc nL Ts ret fr lo S0 Sf rv) {r : Nat} {j : Int32} {v : Option Nat} {t9 ci N : Nat} {Cv : String} {T : u_T} {g : Sg → Option ρ} (hr : r ∈ rwL) (ht : rtag r = t9) (ht3 : 3 ≤ t9) (hy : (TY K.1)[t9]? = some (K.1 t9, .object Cv)) (hc : vwCl[ci]? = some (Cv, T, N)) (hd : decode cc pc = .ok (.aastore, 1)) (h : (wQ S ci r j v).bind g = some Rr) (k : ∀ S2 : Sg, g S2 = some Rr → WX p l e R s m args below meth c Q D A K m9 mr nL S0 S2 (pc + 1) lv st) : WX p l e R s m args below meth c Q D A K m9 mr nL S0 S pc lv (va_rf v :: .int j :: .ref (mr r) :: st) := fun H locs ls hP hl => by
  obtain ⟨S2, h1, h2⟩ := ob h
  obtain ⟨h3, h4⟩ := ng (a := none) h1
  obtain ⟨h5, h4⟩ := pg h4
  cases h4
  have hrw : ∀ f : Nat → Option Nat, rwc K.1 (Uq S r f) r = .inl (K.1 t9, rlen r, .inr (.inr (.inr (.inr f)))) := fun f => by unfold rwc; rw [ht, if_neg (by omega), if_neg (by omega)]; show (Sum.inl (K.1 t9, rlen r, .inr (.inr (.inr (.inr (va_up (Zq S) r f r))))) : va_E) = _; rw [va_up_self]
  obtain ⟨hp, hd1⟩ := hP.fo (LLr hr) ((hP.FFr hr).trans (show rwc K.1 S r = .inl (K.1 t9, rlen r, .inr (.inr (.inr (.inr (Zq S r))))) by unfold rwc; rw [ht, if_neg (by omega), if_neg (by omega)]))
  cases v with
  | none =>
    refine va_astqN C.x C.b C.kk hp hd1 hP.2.2.1.rs 0 t9 rfl hy h3 hd (fun H1 locs1 hP1 hD1 hS1 => ?_)
    exact WX.put (S2 := Uq S r (va_up (Zq S r) j.toNatClampNeg none)) C hP (LLr hr) hP1 hD1 hS1 rfl (hP.ur hr (hrw _) (fun q hq => ⟨rfl, rfl, va_up_ne _ _ hq⟩) rfl rfl rfl) rfl rfl hl (k _ h2)
  | some b =>
    obtain ⟨hb, vs, hv⟩ := okO_of h5
    obtain ⟨jb, hjb⟩ := er_at (L := LL m9 mr S) (F := FF K.1 m9 mr S) (a := mr r) (b := b) (LLl hb) (fun e => hP.nrL hb hr e.symm) (x := (mr r, .inl (K.1 t9, rlen r, .inr (.inr (.inr (.inr (Zq S r)))))))
    rw [hP.FFL hb, hv] at hjb
    refine va_astq C.x C.b C.kk hp hd1 hP.2.2.1.rs 0 t9 jb ci rfl (r := (Cv, T, N)) hy hjb hc h3 hd (fun H1 locs1 hP1 hD1 hS1 => ?_)
    exact WX.put (S2 := Uq S r (va_up (Zq S r) j.toNatClampNeg (some b))) C hP (LLr hr) hP1 hD1 hS1 rfl (hP.ur hr (hrw _) (fun q hq => ⟨rfl, rfl, va_up_ne _ _ hq⟩) rfl rfl rfl) rfl rfl hl (k _ h2)
/-- null into a row of rows -/
theorem aN_0 {H : Heap} {T : State} {locs : List Loc} {cells slots : Nat} (X : Stand p l e R s m args below meth c T locs cells slots) (hexec : p.tables.exec = Jvm.exec) {a : Addr} {cell : Cell} {j : Int32} (hcell : T.heap[a]? = some cell) (harr : s.isArrayOf cell (.array .int)) (hknown : cell.vm ≠ .unknown) (hin : ¬ (j < 0 ∨ cell.slots.size ≤ j.toNatClampNeg)) {g : JFrame} (hg : g.method = m) {rest : List Value} (hstack : g.stack = .null :: .int j :: .ref a :: rest) (hdg : decode c.code g.pc = .ok (.aastore, 1)) :
    Stand p l e R s m args below meth c (T.setCell a (cell.setSlot j.toNatClampNeg .null)) (locs ++ [⟨a, j.toNatClampNeg⟩]) cells slots ∧ ∀ target, Steps p.tables e below ((T.setCell a (cell.setSlot j.toNatClampNeg .null)).setTop { g with pc := g.pc + 1, stack := rest }) target → Steps p.tables e below (T.setTop g) target := by
  have hT := State.isArrayOf_alike X.warmed.alike harr
  have hfit : T.fitsSlot cell.cls cell.vm j.toNatClampNeg .null = true := by
    obtain ⟨hobj, k, hk, comp, hkind⟩ := hT
    cases hvm : cell.vm <;> first | exact absurd hvm (hobj _) | simp [State.fitsSlot, State.slotType?, hk, hkind, fits]
  refine ⟨X.stored hcell _ _, fun target hrest => ?_⟩
  subst hg
  jvm_step X.here [hexec, hdg]
  refine aastore.wp_of_null (c := cell) (t := .array .int) X.here.top hstack hcell hT hin hknown (Nat.not_le.mp fun q => hin (Or.inr q)) hfit ?_
  intro acts
  rw [afterInstr_ok]
  exact hrest
theorem kA_of (C : CX p l e R s m args below meth c Q D A K m9 mr own mn cc nL Ts ret fr lo S0 Sf rv) : (∃ kA : Class, s.vm.classes[K.1 8]? = some kA ∧ kA.kind = .array (K.1 0) (.array .int)) ∧ ∃ kI : Class, s.vm.classes[K.1 0]? = some kI := by
  obtain ⟨comp, ca, k, h1, h2, h3, h4, h5⟩ := arrayOverA_spec C.2.2.2.2.1
  have e1 : ca = K.1 8 := Option.some.inj (h5.symm.trans (C.kk.2 8 _ rfl).2)
  have e2 : comp = K.1 0 := Option.some.inj (h1.symm.trans (C.kk.2 0 _ rfl).2)
  subst e1; subst e2
  obtain ⟨_, kI, hkI, _⟩ := (C.kk.2 0 _ rfl).1 0 (fun _ => .null)
  exact ⟨⟨k, h3, h4⟩, kI, hkI⟩
theorem x_wA (C : CX p l e R s m args below meth c Q D A K m9 mr own mn cc nL Ts ret fr lo S0 Sf rv) {r : Nat} {j : Int32} {v : Option Nat} {g : Sg → Option ρ} (hr : r ∈ rwL) (ht : rtag r = 8) (hd : decode cc pc = .ok (.aastore, 1)) (h : (wA K S r j v).bind g = some Rr) (k : ∀ S2 : Sg, g S2 = some Rr → WX p l e R s m args below meth c Q D A K m9 mr nL S0 S2 (pc + 1) lv st) : WX p l e R s m args below meth c Q D A K m9 mr nL S0 S pc lv (va_rf v :: .int j :: .ref (mr r) :: st) := fun H locs ls hP hl => by
  obtain ⟨S2, h1, h2⟩ := ob h
  obtain ⟨h3, h4⟩ := ng (a := none) h1
  obtain ⟨h5, h4⟩ := pg h4
  cases h4
  have hrw : ∀ f : Nat → Option Nat, rwc K.1 (Uq S r f) r = .inl (K.1 8, rlen r, .inr (.inr (.inr (.inr f)))) := fun f => by unfold rwc; rw [ht, if_neg (by omega), if_neg (by omega)]; show (Sum.inl (K.1 8, rlen r, .inr (.inr (.inr (.inr (va_up (Zq S) r f r))))) : va_E) = _; rw [va_up_self]
  obtain ⟨hp, hd1⟩ := hP.fo (LLr hr) ((hP.FFr hr).trans (show rwc K.1 S r = .inl (K.1 8, rlen r, .inr (.inr (.inr (.inr (Zq S r))))) by unfold rwc; rw [ht, if_neg (by omega), if_neg (by omega)]))
  have hcell := hp 0 _ rfl
  have hlt : j.toNatClampNeg < rlen r := Nat.not_le.mp fun q => h3 (Or.inr q)
  have hset : ∀ (w : Option Nat) (H1 : Heap), H1[mr r]? = some ((vp_cell (K.1 8) (rlen r, .inr (.inr (.inr (.inr (Zq S r)))))).setSlot j.toNatClampNeg (va_rf w)) → H1[mr r]? = some (vp_cell (K.1 8) (rlen r, .inr (.inr (.inr (.inr (va_up (Zq S r) j.toNatClampNeg w)))))) := fun w H1 e => by
    rw [e, vp_cell_q, vp_cell_q, arrV_store]
    congr 2
    funext q
    by_cases hq : q = j.toNatClampNeg
    · subst hq; simp [updV, va_up]
    · simp [updV, va_up, hq]
  have hfin : ∀ (w : Option Nat) (H1 : Heap) (hS2 : g (Uq S r (va_up (Zq S r) j.toNatClampNeg w)) = some Rr) (eh : H1[mr r]? = some ((vp_cell (K.1 8) (rlen r, .inr (.inr (.inr (.inr (Zq S r)))))).setSlot j.toNatClampNeg (va_rf w))) (z : H1.size = H.size) (oq : ∀ q, q ≠ mr r → H1[q]? = H[q]?), W p l e R s m args below meth c H1 (locs ++ [⟨mr r, j.toNatClampNeg⟩]) (Zz S - Zz S0) (Zn S - Zn S0) Q (F0 m (pc + 1) ls st) := fun w H1 hS2 eh z oq =>
    WX.put (S2 := Uq S r (va_up (Zq S r) j.toNatClampNeg w)) C hP (LLr hr) (hp.set hd1 (p := 0) (e := .inl (K.1 8, rlen r, .inr (.inr (.inr (.inr (va_up (Zq S r) j.toNatClampNeg w)))))) rfl (hset w H1 eh) oq) (hd1.set (p := 0) rfl) (hP.2.2.1.rs.put z oq (hd1.2 0 _ rfl)) rfl (hP.ur hr (hrw _) (fun q hq => ⟨rfl, rfl, va_up_ne _ _ hq⟩) rfl rfl rfl) rfl rfl hl (k _ hS2)
  cases v with
  | none =>
    intro T hT X
    have hT' : T.heap[mr r]? = some (vp_cell (K.1 8) (rlen r, .inr (.inr (.inr (.inr (Zq S r)))))) := by rw [hT]; exact hcell
    obtain ⟨X', st'⟩ := aN_0 (H := H) X C.x hT' ((C.kk.2 8 _ rfl).1 (rlen r) (fun j => va_rf (Zq S r j))) (fun q => by cases q) (by show ¬ (j < 0 ∨ (arrV _ _ _).slots.size ≤ _); rw [arrV_size]; exact h3) (g := F0 m pc ls (.null :: .int j :: .ref (mr r) :: st)) rfl rfl (by rw [C.b]; exact hd)
    have hlt2 : mr r < T.heap.size := (Array.getElem?_eq_some_iff.mp hT').1
    obtain ⟨t', a1, b1⟩ := hfin none _ h2 (heapAt_setCell_self _ hlt2) (by rw [size_setCell, hT]) (fun q hq => by rw [heapAt_setCell_ne _ (Ne.symm hq), hT]) _ rfl X'
    exact ⟨t', st' t' a1, b1⟩
  | some b =>
    obtain ⟨hb, n, f, hv⟩ := okA_of h5
    obtain ⟨⟨kA, k1, k2⟩, kI, k3⟩ := kA_of C
    have hvc := (hP.one (LLl hb) ((hP.FFL hb).trans hv)) 0 _ rfl
    refine W.aast C.x C.b hcell (fun q h => by cases h) (fun h => by cases h) k1 k2 rfl k3 ⟨fun q => h3 (Or.inl q), by show _ < (arrV _ _ _).slots.size; rw [arrV_size]; exact hlt⟩ hvc (fun q h => by cases h) k3 (by show s.vm.assignableAux (255 + 1) (K.1 0) (K.1 0) = true; rw [Vm.assignableAux, beq_self_eq_true, Bool.true_or]) rfl rfl hd fun H1 e z oq => ?_
    exact hfin (some b) H1 h2 e z oq
theorem aI_of {K : Ky} {S : Sg} {o9 : Option Nat} {j v : Int32} (h : aI K S o9 j = some v) : ∃ (a n : Nat) (f : Nat → Int32), o9 = some a ∧ a ∈ ZL S ∧ ZF S a = .inl (K.1 0, n, .inl f) ∧ ¬ (j < 0 ∨ n ≤ j.toNatClampNeg) ∧ v = f j.toNatClampNeg := by
  obtain ⟨q, h1, h2⟩ := ob h
  obtain ⟨g1, g2, g3⟩ := aC_of h1
  obtain ⟨a, cA, n, x⟩ := q
  match x, h2, g3 with
  | .inl f, h2, g3 =>
    obtain ⟨h3, h4⟩ := ng (a := none) h2
    obtain ⟨h5, h6⟩ := pg h4
    subst h5
    exact ⟨a, n, f, g1, g2, g3, h3, (Option.some.inj h6).symm⟩
theorem aI_mk {K : Ky} {S : Sg} {a n : Nat} {f : Nat → Int32} {j : Int32} (ha : a ∈ ZL S) (hF : ZF S a = .inl (K.1 0, n, .inl f)) (hj : ¬ (j < 0 ∨ n ≤ j.toNatClampNeg)) : aI K S (some a) j = some (f j.toNatClampNeg) := by
  unfold aI; rw [aC_mk ha hF]; show (if _ then none else if _ then _ else none) = _; rw [if_neg hj, if_pos rfl]
theorem aQ_of {K : Ky} {t : Nat} {S : Sg} {o9 : Option Nat} {j : Int32} {v : Option Nat} (h : aQ K t S o9 j = some v) : ∃ (a n : Nat) (f : Nat → Option Nat), o9 = some a ∧ a ∈ ZL S ∧ ZF S a = .inl (K.1 t, n, .inr (.inr (.inr (.inr f)))) ∧ ¬ (j < 0 ∨ n ≤ j.toNatClampNeg) ∧ v = f j.toNatClampNeg := by
  obtain ⟨q, h1, h2⟩ := ob h
  obtain ⟨g1, g2, g3⟩ := aC_of h1
  obtain ⟨a, cA, n, x⟩ := q
  match x, h2, g3 with
  | .inr (.inr (.inr (.inr f))), h2, g3 =>
    obtain ⟨h3, h4⟩ := ng (a := none) h2
    obtain ⟨h5, h6⟩ := pg h4
    subst h5
    exact ⟨a, n, f, g1, g2, g3, h3, (Option.some.inj h6).symm⟩
theorem aQ_mk {K : Ky} {t : Nat} {S : Sg} {a n : Nat} {f : Nat → Option Nat} {j : Int32} (ha : a ∈ ZL S) (hF : ZF S a = .inl (K.1 t, n, .inr (.inr (.inr (.inr f))))) (hj : ¬ (j < 0 ∨ n ≤ j.toNatClampNeg)) : aQ K t S (some a) j = some (f j.toNatClampNeg) := by
  unfold aQ; rw [aC_mk ha hF]; show (if _ then none else if _ then _ else none) = _; rw [if_neg hj, if_pos rfl]
theorem bI_of {K : Ky} {S S2 : Sg} {o9 : Option Nat} {j v : Int32} (h : bI K S o9 j v = some S2) : ∃ (a n : Nat) (f : Nat → Int32), o9 = some a ∧ a ∈ ZL S ∧ ZF S a = .inl (K.1 0, n, .inl f) ∧ ¬ (j < 0 ∨ n ≤ j.toNatClampNeg) ∧ S2 = UF S a (.inl (K.1 0, n, .inl (upd f j.toNatClampNeg v))) := by
  obtain ⟨q, h1, h2⟩ := ob h
  obtain ⟨g1, g2, g3⟩ := aC_of h1
  obtain ⟨a, cA, n, x⟩ := q
  match x, h2, g3 with
  | .inl f, h2, g3 =>
    obtain ⟨h3, h4⟩ := ng (a := none) h2
    obtain ⟨h5, h6⟩ := pg h4
    subst h5
    exact ⟨a, n, f, g1, g2, g3, h3, (Option.some.inj h6).symm⟩
theorem bI_mk {K : Ky} {S : Sg} {a n : Nat} {f : Nat → Int32} {j v : Int32} (ha : a ∈ ZL S) (hF : ZF S a = .inl (K.1 0, n, .inl f)) (hj : ¬ (j < 0 ∨ n ≤ j.toNatClampNeg)) : bI K S (some a) j v = some (UF S a (.inl (K.1 0, n, .inl (upd f j.toNatClampNeg v)))) := by
  unfold bI; rw [aC_mk ha hF]; show (if _ then none else if _ then _ else none) = _; rw [if_neg hj, if_pos rfl]
theorem bQ_of {K : Ky} {t ci : Nat} {S S2 : Sg} {o9 : Option Nat} {j : Int32} {v : Option Nat} (h : bQ K t ci S o9 j v = some S2) : ∃ (a n : Nat) (f : Nat → Option Nat), o9 = some a ∧ a ∈ ZL S ∧ ZF S a = .inl (K.1 t, n, .inr (.inr (.inr (.inr f)))) ∧ ¬ (j < 0 ∨ n ≤ j.toNatClampNeg) ∧ okO S ci v = true ∧ S2 = UF S a (.inl (K.1 t, n, .inr (.inr (.inr (.inr (va_up f j.toNatClampNeg v)))))) := by
  obtain ⟨q, h1, h2⟩ := ob h
  obtain ⟨g1, g2, g3⟩ := aC_of h1
  obtain ⟨a, cA, n, x⟩ := q
  match x, h2, g3 with
  | .inr (.inr (.inr (.inr f))), h2, g3 =>
    obtain ⟨h3, h4⟩ := ng (a := none) h2
    obtain ⟨h5, h6⟩ := pg h4
    obtain ⟨h7, h8⟩ := pg h6
    subst h5
    exact ⟨a, n, f, g1, g2, g3, h3, h7, (Option.some.inj h8).symm⟩
theorem bQ_mk {K : Ky} {t ci : Nat} {S : Sg} {a n : Nat} {f : Nat → Option Nat} {j : Int32} {v : Option Nat} (ha : a ∈ ZL S) (hF : ZF S a = .inl (K.1 t, n, .inr (.inr (.inr (.inr f))))) (hj : ¬ (j < 0 ∨ n ≤ j.toNatClampNeg)) (hv : okO S ci v = true) : bQ K t ci S (some a) j v = some (UF S a (.inl (K.1 t, n, .inr (.inr (.inr (.inr (va_up f j.toNatClampNeg v))))))) := by
  unfold bQ; rw [aC_mk ha hF]; show (if _ then none else if _ then (if _ then _ else none) else none) = _; rw [if_neg hj, if_pos rfl, if_pos hv]
theorem x_aI (C : CX p l e R s m args below meth c Q D A K m9 mr own mn cc nL Ts ret fr lo S0 Sf rv) {o9 : Option Nat} {j : Int32} {g : Int32 → Option ρ} (hd : decode cc pc = .ok (.iaload, 1)) (h : (aI K S o9 j).bind g = some Rr) (k : ∀ v : Int32, g v = some Rr → WX p l e R s m args below meth c Q D A K m9 mr nL S0 S (pc + 1) lv (.int v :: st)) : WX p l e R s m args below meth c Q D A K m9 mr nL S0 S pc lv (.int j :: va_rf o9 :: st) := fun H locs ls hP hl => by
  obtain ⟨v, h1, h2⟩ := ob h
  obtain ⟨a, n, f, rfl, ha, hF, hj, rfl⟩ := aI_of h1
  exact va_iald C.x C.b C.kk (hP.one (LLl ha) ((hP.FFL ha).trans hF)) 0 0 rfl rfl hj hd (k _ h2 H locs ls hP hl)
theorem x_aQ (C : CX p l e R s m args below meth c Q D A K m9 mr own mn cc nL Ts ret fr lo S0 Sf rv) {o9 : Option Nat} {j : Int32} {t9 : Nat} {Cv : String} {g : Option Nat → Option ρ} (hy : (TY K.1)[t9]? = some (K.1 t9, .object Cv)) (hd : decode cc pc = .ok (.aaload, 1)) (h : (aQ K t9 S o9 j).bind g = some Rr) (k : ∀ v : Option Nat, g v = some Rr → WX p l e R s m args below meth c Q D A K m9 mr nL S0 S (pc + 1) lv (va_rf v :: st)) : WX p l e R s m args below meth c Q D A K m9 mr nL S0 S pc lv (.int j :: va_rf o9 :: st) := fun H locs ls hP hl => by
  obtain ⟨v, h1, h2⟩ := ob h
  obtain ⟨a, n, f, rfl, ha, hF, hj, rfl⟩ := aQ_of h1
  exact va_aldq C.x C.b C.kk (hP.one (LLl ha) ((hP.FFL ha).trans hF)) 0 t9 rfl hy hj hd (k _ h2 H locs ls hP hl)
theorem x_bI (C : CX p l e R s m args below meth c Q D A K m9 mr own mn cc nL Ts ret fr lo S0 Sf rv) {o9 : Option Nat} {j x : Int32} {g : Sg → Option ρ} (hd : decode cc pc = .ok (.iastore, 1)) (h : (bI K S o9 j x).bind g = some Rr) (k : ∀ S2 : Sg, g S2 = some Rr → WX p l e R s m args below meth c Q D A K m9 mr nL S0 S2 (pc + 1) lv st) : WX p l e R s m args below meth c Q D A K m9 mr nL S0 S pc lv (.int x :: .int j :: va_rf o9 :: st) := fun H locs ls hP hl => by
  obtain ⟨S2, h1, h2⟩ := ob h
  obtain ⟨a, n, f, rfl, ha, hF, hj, rfl⟩ := bI_of h1
  obtain ⟨hp, hd1⟩ := hP.fo (LLl ha) ((hP.FFL ha).trans hF)
  refine va_iast C.x C.b C.kk hp hd1 hP.2.2.1.rs 0 0 rfl rfl hj hd (fun H1 locs1 hP1 hD1 hS1 => ?_)
  exact WX.put (S2 := UF S a (.inl (K.1 0, n, .inl (upd f j.toNatClampNeg x)))) C hP (LLl ha) hP1 hD1 hS1 rfl (hP.uF ha) rfl rfl hl (k _ h2)
theorem x_bQ (C : CX p l e R s m args below meth c Q D A K m9 mr own mn cc nL Ts ret fr lo S0 Sf rv) {o9 : Option Nat} {j : Int32} {v : Option Nat} {t9 ci N : Nat} {Cv : String} {T : u_T} {g : Sg → Option ρ} (hy : (TY K.1)[t9]? = some (K.1 t9, .object Cv)) (hc : vwCl[ci]? = some (Cv, T, N)) (hd : decode cc pc = .ok (.aastore, 1)) (h : (bQ K t9 ci S o9 j v).bind g = some Rr) (k : ∀ S2 : Sg, g S2 = some Rr → WX p l e R s m args below meth c Q D A K m9 mr nL S0 S2 (pc + 1) lv st) : WX p l e R s m args below meth c Q D A K m9 mr nL S0 S pc lv (va_rf v :: .int j :: va_rf o9 :: st) := fun H locs ls hP hl => by
  obtain ⟨S2, h1, h2⟩ := ob h
  obtain ⟨a, n, f, rfl, ha, hF, hj, hok, rfl⟩ := bQ_of h1
  obtain ⟨hp, hd1⟩ := hP.fo (LLl ha) ((hP.FFL ha).trans hF)
  cases v with
  | none =>
    refine va_astqN C.x C.b C.kk hp hd1 hP.2.2.1.rs 0 t9 rfl hy hj hd (fun H1 locs1 hP1 hD1 hS1 => ?_)
    exact WX.put (S2 := UF S a (.inl (K.1 t9, n, .inr (.inr (.inr (.inr (va_up f j.toNatClampNeg none))))))) C hP (LLl ha) hP1 hD1 hS1 rfl (hP.uF ha) rfl rfl hl (k _ h2)
  | some b =>
    obtain ⟨hb, vs, hv⟩ := okO_of hok
    obtain ⟨jb, hjb⟩ := er_at (L := LL m9 mr S) (F := FF K.1 m9 mr S) (a := a) (b := b) (LLl hb) (fun e => by subst e; rw [hF] at hv; cases hv) (x := (a, .inl (K.1 t9, n, .inr (.inr (.inr (.inr f))))))
    rw [hP.FFL hb, hv] at hjb
    refine va_astq C.x C.b C.kk hp hd1 hP.2.2.1.rs 0 t9 jb ci rfl (r := (Cv, T, N)) hy hjb hc hj hd (fun H1 locs1 hP1 hD1 hS1 => ?_)
    exact WX.put (S2 := UF S a (.inl (K.1 t9, n, .inr (.inr (.inr (.inr (va_up f j.toNatClampNeg (some b)))))))) C hP (LLl ha) hP1 hD1 hS1 rfl (hP.uF ha) rfl rfl hl (k _ h2)
theorem x_aLn (C : CX p l e R s m args below meth c Q D A K m9 mr own mn cc nL Ts ret fr lo S0 Sf rv) {o9 : Option Nat} {t9 : Nat} {ty : FieldType} {g : Int32 → Option ρ} (hy : (TY K.1)[t9]? = some (K.1 t9, ty)) (hd : decode cc pc = .ok (.arraylength, 1)) (h : (aLn K t9 S o9).bind g = some Rr) (k : ∀ v : Int32, g v = some Rr → WX p l e R s m args below meth c Q D A K m9 mr nL S0 S (pc + 1) lv (.int v :: st)) : WX p l e R s m args below meth c Q D A K m9 mr nL S0 S pc lv (va_rf o9 :: st) := fun H locs ls hP hl => by
  obtain ⟨v, h1, h2⟩ := ob h
  obtain ⟨q, h3, h4⟩ := ob h1
  obtain ⟨rfl, g2, g3⟩ := aC_of h3
  obtain ⟨h5, h6⟩ := pg h4
  cases h6
  obtain ⟨a, cA, x⟩ := q
  have h5 : cA = K.1 t9 := h5
  subst h5
  exact va_alen C.x C.b C.kk (hP.one (LLl g2) ((hP.FFL g2).trans g3)) 0 t9 rfl hy rfl hd (k _ h2 H locs ls hP hl)
theorem x_nO (C : CX p l e R s m args below meth c Q D A K m9 mr own mn cc nL Ts ret fr lo S0 Sf rv) {ci idx N : Nat} {Cn : String} {T : u_T} {ty0 : Nat → FieldType} {fs : List Value} {g : Sg → Nat → Option ρ} (hc : vwCl[ci]? = some (Cn, T, N)) (hT : ∀ w ∈ u_ws Cn T N, w ∈ wR) (hty0 : ∀ k, k < N → parseFieldDescriptor (T k).2.2.1 = some (ty0 k)) (hw1 : Cond.classLink own idx Cn ∈ wR) (hw2 : Cond.instantiable Cn N ∈ wR) (hw3 : Cond.initialized Cn ∈ wR) (hfs : ∀ j, j < N → defaultValue (ty0 j) = vp_V fs j) (hd : decode cc pc = .ok (.new idx, 3)) (h : bnd (nO K S ci N fs) g = some Rr) (k : ∀ (S2 : Sg) (a : Nat), g S2 a = some Rr → WX p l e R s m args below meth c Q D A K m9 mr nL S0 S2 (pc + 3) lv (va_rf (some a) :: st)) : WX p l e R s m args below meth c Q D A K m9 mr nL S0 S pc lv st := fun H locs ls hP hl => by
  obtain ⟨q, h1, h2⟩ := ob h
  obtain ⟨h3, h4⟩ := pg h1
  cases h4
  have hz := C.z; have h5 := hP.2.2.2.1; have h6 := hP.2.2.1.1; have h7 := hP.2.2.2.2.1; obtain ⟨r1, r2, _⟩ := C.rm
  refine va_new C.x C.b C.1.2.2.2.2 (fun w h => C.2.1 w (hT w h)) ty0 hty0 C.o (C.w hw1) (C.w hw2) (C.w hw3) C.kk hP.1 hP.2.1 hP.2.2.1.rs (fun q hq => C.A9 q (by omega)) hc hfs (by rw [r1]; omega) (by rw [r2]; omega) hd (fun q H1 hP1 hD1 hS1 => ?_)
  refine W.grow (fun hg0 _ => ?_)
  have hP := hP
  rw [C.ae] at hP hD1 hS1
  obtain ⟨rfl, hN⟩ := hP.nw (n := N) hz hP1 hD1 (hP.2.2.1.tr hS1) hS1.1 (by omega) h3
  rw [← C.ae] at hN
  refine W.widen (k := Zz S + 1 - Zz S0) (n := Zn S + N - Zn S0) (by omega) (by omega) ?_
  exact k _ _ h2 H1 _ ls hN hl
theorem x_nA (C : CX p l e R s m args below meth c Q D A K m9 mr own mn cc nL Ts ret fr lo S0 Sf rv) {n : Int32} {g : Sg → Nat → Option ρ} (hw : Cond.arrayClass .int ∈ wR) (hd : decode cc pc = .ok (.newarray .int, 2)) (h : bnd (nA K S n) g = some Rr) (k : ∀ (S2 : Sg) (a : Nat), g S2 a = some Rr → WX p l e R s m args below meth c Q D A K m9 mr nL S0 S2 (pc + 2) lv (va_rf (some a) :: st)) : WX p l e R s m args below meth c Q D A K m9 mr nL S0 S pc lv (.int n :: st) := fun H locs ls hP hl => by
  obtain ⟨q, h1, h2⟩ := ob h
  obtain ⟨h0, h1⟩ := ng (a := none) h1
  obtain ⟨h3, h4⟩ := pg h1
  cases h4
  have hz := C.z; have h5 := hP.2.2.2.1; have h6 := hP.2.2.1.1; have h7 := hP.2.2.2.2.1; obtain ⟨r1, r2, _⟩ := C.rm
  refine va_newa (atype := .int) (a0 := (n.toNatClampNeg, .inl (fun _ => 0))) (ty := .int) C.x C.b (C.w hw) rfl C.kk hP.1 hP.2.1 hP.2.2.1.rs (fun q hq => C.A9 q (by omega)) (fun _ => rfl) h0 rfl (show n.toNatClampNeg * 4 ≤ 536870912 by omega) (by rw [r1]; omega) (by rw [r2]; omega) hd (fun q cA H1 hK1 hP1 hD1 hS1 => ?_)
  have hk : cA = K.1 0 := kEq_int hK1 14 0 rfl rfl
  subst hk
  refine W.grow (fun hg0 _ => ?_)
  have hP := hP
  rw [C.ae] at hP hD1 hS1
  obtain ⟨rfl, hN⟩ := hP.nw (n := n.toNatClampNeg) hz hP1 hD1 (hP.2.2.1.tr hS1) hS1.1 (by omega) h3.2
  rw [← C.ae] at hN
  refine W.widen (k := Zz S + 1 - Zz S0) (n := Zn S + n.toNatClampNeg - Zn S0) (by omega) (by omega) ?_
  exact k _ _ h2 H1 _ ls hN hl
theorem PI.enter {H0 H : Heap} {locs : List Loc} (h : PI D A K m9 mr H0 S0 S H locs) : PI D (fun _ => True) K m9 mr H S S H [] := ⟨h.1, h.2.1.weaken (fun _ _ _ _ => trivial), va_S.rf, h.2.2.2.1, Nat.le_refl _, fun _ q => q, fun q h1 h2 => absurd h2 (by rw [← h.2.2.2.1]; omega), h.2.2.2.2.2.2.2.1, h.2.2.2.2.2.2.2.2⟩
theorem x_after (C : CX p l e R s m args below meth c Q D A K m9 mr own mn cc nL Ts ret fr lo S0 Sf rv) {H : Heap} {locs : List Loc} {ls : Array Slot} (hP : PI D A K m9 mr s.heap S0 S H locs) (hl : lv_has ls nL lv) {S2 : Sg} {rv2 : Option Value} {st0 : List Value} {aa : Array Value} (hr : va_Run p l e R s m args below meth c H locs (Zz S - Zz S0) (Zn S - Zn S0) (K.2.1 - Zz S) (K.2.2 - Zn S) (F0 m pc ls st0) st (QC D K m9 mr S S2 rv2 aa) (AA K m9 mr S)) (k : WX p l e R s m args below meth c Q D A K m9 mr nL S0 S2 (pc + 3) lv (rv2.toList ++ st)) : W p l e R s m args below meth c H locs (Zz S - Zz S0) (Zn S - Zn S0) Q (F0 m pc ls st0) := by
  refine W.grow (fun hg0 hg1 => ?_)
  intro T hT X
  obtain ⟨v, st₀, t, T', L, h0, X', hL, e1, e2, ⟨hv, hP2, hn2, hz, hk⟩, st'⟩ := hr T hT X
  cases hv
  rw [h0] at hP2 hz hk hn2
  have hAA : ∀ q : Nat, AA K m9 mr S q → A q := fun q hq => by
    rcases hq with ⟨i, x, hi⟩ | hq
    · exact hP.2.1.2 i _ hi
    · exact C.A9 q (Nat.le_trans hP.2.2.1.1 (by rw [hP.2.2.2.1]; exact hq))
  have hS1 : va_S A s.heap t.heap (locs ++ L) := ⟨Nat.le_trans hP.2.2.1.1 hz, fun q h1 h2 => by rw [hk q (Nat.lt_of_lt_of_le h1 hP.2.2.1.1) (fun z => h2 (hAA q z))]; exact hP.2.2.1.2.1 q h1 h2, fun q hq => by
      rcases List.mem_append.mp hq with h | h
      · exact hP.2.2.1.2.2 q h
      · exact hAA _ (hL q h)⟩
  have hN : PI D A K m9 mr s.heap S0 S2 t.heap (locs ++ L) := ⟨hP2.1, hP2.2.1.weaken (fun _ _ _ h => hAA _ h), hS1, hP2.2.2.2.1, Nat.le_trans hP.2.2.2.2.1 hP2.2.2.2.2.1, fun a ha => hP2.2.2.2.2.2.1 a (hP.2.2.2.2.2.1 a ha), fun q h1 h2 => by
      rcases Nat.lt_or_ge q (Zz S) with z | z
      · exact hP2.2.2.2.2.2.1 q (hP.2.2.2.2.2.2.1 q h1 z)
      · exact hP2.2.2.2.2.2.2.1 q (by rw [hP.2.2.2.1]; exact z) h2, hP2.2.2.2.2.2.2.2.1, hP.2.2.2.2.2.2.2.2⟩
  have hzz := C.z; have q1 := hP.2.2.2.1; have q2 := hP2.2.2.2.1; have q3 := hP.2.2.2.2.1; have q4 := hP2.2.2.2.2.1; have q5 := hP.2.2.1.1
  have hW := W.tight (cells := (Zz S - Zz S0) + (K.2.1 - Zz S)) (slots := (Zn S - Zn S0) + (K.2.2 - Zn S)) (k := Zz S2 - Zz S0) (n := Zn S2 - Zn S0) (by omega) (by omega) (k t.heap (locs ++ L) ls hN hl)
  obtain ⟨t2, a1, b1⟩ := hW T' e1 X'
  exact ⟨t2, st' t2 a1, b1⟩
theorem ct_at (C : CX p l e R s m args below meth c Q D A K m9 mr own mn cc nL Ts ret fr lo S0 Sf rv) {H : Heap} {locs : List Loc} (hP : PI D A K m9 mr s.heap S0 S H locs) (av : List Value) : FrameBlind (va_Pc av (fun U => PI D (fun _ => True) K m9 mr U.heap S S U.heap [] ∧ va_K D vwCl (TY K.1) U ∧ nsM U ∧ nwA U)) ∧ ∀ U : State, U.heap = H → s.WarmedH U.vm → va_Pc av (fun U => PI D (fun _ => True) K m9 mr U.heap S S U.heap [] ∧ va_K D vwCl (TY K.1) U ∧ nsM U ∧ nwA U) av.toArray U :=
  ⟨fun a U g mk q => by obtain ⟨q0, qP, qK, q1, q2⟩ := q; exact ⟨q0, qP, va_K.moved (u := U) (U := U.calling g mk a) (Vm.Alike.refl U.vm) qK, nsM.same (u := U) (U := U.calling g mk a) rfl q1, nwA.moved (u := U) (U := U.calling g mk a) (Vm.Alike.refl U.vm) q2⟩,
   fun U hU hW => ⟨rfl, by rw [hU]; exact hP.enter, va_K.moved hW.alike C.kk, nsM.warm hW C.2.2.2.1, nwA.moved hW.alike C.2.2.2.2.1⟩⟩
theorem gw_T (C : CX p l e R s m args below meth c Q D A K m9 mr own mn cc nL Ts ret fr lo S0 Sf rv) {ws : List Cond} (h : ∀ w ∈ ws, w ∈ wR) : GoodIn Ts ws := fun w hw => ⟨C.2.1 w (h w hw), (gd_R w (h w hw)).2⟩
theorem gw_c {cd : Cond} (h : cd ∈ wR) : ∀ w ∈ cd :: wR, w ∈ wR := fun w hw => by
  rcases List.mem_cons.mp hw with e | e
  · rw [e]; exact h
  · exact e
theorem x_callV (C : CX p l e R s m args below meth c Q D A K m9 mr own mn cc nL Ts ret fr lo S0 Sf rv) {α : Type} {x9 : Option (Sg × α)} {tv : α → Option Value} {g : Sg × α → Option ρ} {y : MethodName} {yc : ByteArray} {mL n idx frc loc : Nat} {rt : Option FieldType} {As : List Value} (h : x9.bind g = some Rr) (hM : ∀ (S2 : Sg) (r : α), x9 = some (S2, r) → CT l D K m9 mr y (Cond.code y yc mL rt) frc loc S S2 (.ref m9 :: As) (tv r)) (hcw : Cond.code y yc mL rt ∈ wR) (hw1 : Cond.methodLink own idx y ∈ wR) (hw2 : Cond.instanceMethod y ∈ wR) (hw3 : Cond.selects RX23 y y ∈ wR) (hw4 : Cond.initialized RX23 ∈ wR) (hds : y.cls = RX23 ∧ y.cls ≠ "java/lang/invoke/MethodHandle" ∧ y.cls ≠ "java/lang/invoke/VarHandle" ∧ (parseMethodDescriptor y.desc).map (fun d => d.parameters.length) = some n) (hn : As.length = n) (hrm : frc + 1 ≤ fr ∧ 8 + (mL + 11) + loc ≤ lo) (hct : (st.map fun v => v.category).sum ≤ 8) (hd : decode cc pc = .ok (.invokevirtual idx, 3)) (k : ∀ (S2 : Sg) (r : α), g (S2, r) = some Rr → WX p l e R s m args below meth c Q D A K m9 mr nL S0 S2 (pc + 3) lv ((tv r).toList ++ st)) : WX p l e R s m args below meth c Q D A K m9 mr nL S0 S pc lv (As.reverse ++ .ref m9 :: st) := fun H locs ls hP hl => by
  obtain ⟨q, h1, h2⟩ := ob h
  obtain ⟨S2, r⟩ := q
  obtain ⟨r1, r2, r3, r4⟩ := C.rm
  have h7 := hP.2.2.2.2.1; have h6 := hP.2.2.1.1; have hz := C.z; have h5 := hP.2.2.2.1; have h8 := hP.2.2.2.2.2.2.2.1
  obtain ⟨hbl, hat⟩ := ct_at C hP (.ref m9 :: As)
  refine x_after C hP hl (va_runV (As := As) C.1 (hM S2 r h1) (cwV n C.1.2.2.2.2 (gw_T C (fun w hw => by
    rcases List.mem_append.mp hw with hw | hw
    · rcases List.mem_cons.mp hw with e | hw
      · rw [e]; exact hw1
      · rcases List.mem_cons.mp hw with e | hw
        · rw [e]; exact hw2
        · rcases List.mem_cons.mp hw with e | hw
          · rw [e]; exact hw3
          · rw [List.mem_singleton.mp hw]; exact hw4
    · exact gw_c hcw w hw)) rfl rfl rfl hds ⟨by rw [r3]; exact hrm.1, by rw [r4]; exact hrm.2⟩) ⟨hbl, va_recv C.kk (hP.one LLm FF_m) (ci := 23) (q0 := 0) rfl rfl, hat⟩ rfl hn hl.1 rfl (lv_room hct) hd ⟨by rw [r1]; omega, by rw [r2]; omega⟩) (k S2 r h2)
theorem x_callO (C : CX p l e R s m args below meth c Q D A K m9 mr own mn cc nL Ts ret fr lo S0 Sf rv) {α : Type} {x9 : Option (Sg × α)} {tv : α → Option Value} {g : Sg × α → Option ρ} {y : MethodName} {yc : ByteArray} {mL n idx frc loc : Nat} {rt : Option FieldType} {As : List Value} {ci N b : Nat} {Cn : String} {T : u_T} {fs : List Value} (hc : vwCl[ci]? = some (Cn, T, N)) (hb9 : b ∈ ZL S) (hF9 : ZF S b = .inr (ci, fs)) (h : x9.bind g = some Rr) (hM : ∀ (S2 : Sg) (r : α), x9 = some (S2, r) → CT l D K m9 mr y (Cond.code y yc mL rt) frc loc S S2 (.ref b :: As) (tv r)) (hcw : Cond.code y yc mL rt ∈ wR) (hw1 : Cond.methodLink own idx y ∈ wR) (hw2 : Cond.instanceMethod y ∈ wR) (hw3 : Cond.selects Cn y y ∈ wR) (hw4 : Cond.initialized Cn ∈ wR) (hds : y.cls = Cn ∧ y.cls ≠ "java/lang/invoke/MethodHandle" ∧ y.cls ≠ "java/lang/invoke/VarHandle" ∧ (parseMethodDescriptor y.desc).map (fun d => d.parameters.length) = some n) (hn : As.length = n) (hrm : frc + 1 ≤ fr ∧ 8 + (mL + 11) + loc ≤ lo) (hct : (st.map fun v => v.category).sum ≤ 8) (hd : decode cc pc = .ok (.invokevirtual idx, 3)) (k : ∀ (S2 : Sg) (r : α), g (S2, r) = some Rr → WX p l e R s m args below meth c Q D A K m9 mr nL S0 S2 (pc + 3) lv ((tv r).toList ++ st)) : WX p l e R s m args below meth c Q D A K m9 mr nL S0 S pc lv (As.reverse ++ .ref b :: st) := fun H locs ls hP hl => by
  obtain ⟨q, h1, h2⟩ := ob h
  obtain ⟨S2, r⟩ := q
  obtain ⟨r1, r2, r3, r4⟩ := C.rm
  have h7 := hP.2.2.2.2.1; have h6 := hP.2.2.1.1; have hz := C.z; have h5 := hP.2.2.2.1; have h8 := hP.2.2.2.2.2.2.2.1
  obtain ⟨hbl, hat⟩ := ct_at C hP (.ref b :: As)
  refine x_after C hP hl (va_runV (As := As) C.1 (hM S2 r h1) (cwV n C.1.2.2.2.2 (gw_T C (fun w hw => by
    rcases List.mem_append.mp hw with hw | hw
    · rcases List.mem_cons.mp hw with e | hw
      · rw [e]; exact hw1
      · rcases List.mem_cons.mp hw with e | hw
        · rw [e]; exact hw2
        · rcases List.mem_cons.mp hw with e | hw
          · rw [e]; exact hw3
          · rw [List.mem_singleton.mp hw]; exact hw4
    · exact gw_c hcw w hw)) rfl rfl rfl hds ⟨by rw [r3]; exact hrm.1, by rw [r4]; exact hrm.2⟩) ⟨hbl, va_recv C.kk (hP.one (LLl hb9) ((hP.FFL hb9).trans hF9)) (ci := ci) (q0 := 0) hc rfl, hat⟩ rfl hn hl.1 rfl (lv_room hct) hd ⟨by rw [r1]; omega, by rw [r2]; omega⟩) (k S2 r h2)
theorem x_callS (C : CX p l e R s m args below meth c Q D A K m9 mr own mn cc nL Ts ret fr lo S0 Sf rv) {α : Type} {x9 : Option (Sg × α)} {tv : α → Option Value} {g : Sg × α → Option ρ} {y : MethodName} {yc : ByteArray} {mL n idx frc loc : Nat} {rt : Option FieldType} {As : List Value} (h : x9.bind g = some Rr) (hM : ∀ (S2 : Sg) (r : α), x9 = some (S2, r) → CT l D K m9 mr y (Cond.code y yc mL rt) frc loc S S2 As (tv r)) (hcw : Cond.code y yc mL rt ∈ wR) (hw1 : Cond.methodLink own idx y ∈ wR) (hw2 : Cond.static y ∈ wR) (hw4 : Cond.initialized y.cls ∈ wR) (hds : y.cls ≠ "java/lang/invoke/MethodHandle" ∧ y.cls ≠ "java/lang/invoke/VarHandle" ∧ (parseMethodDescriptor y.desc).map (fun d => d.parameters.length) = some n) (hn : As.length = n) (hrm : frc + 1 ≤ fr ∧ 8 + (mL + 11) + loc ≤ lo) (hct : (st.map fun v => v.category).sum ≤ 8) (hd : decode cc pc = .ok (.invokestatic idx, 3)) (k : ∀ (S2 : Sg) (r : α), g (S2, r) = some Rr → WX p l e R s m args below meth c Q D A K m9 mr nL S0 S2 (pc + 3) lv ((tv r).toList ++ st)) : WX p l e R s m args below meth c Q D A K m9 mr nL S0 S pc lv (As.reverse ++ st) := fun H locs ls hP hl => by
  obtain ⟨q, h1, h2⟩ := ob h
  obtain ⟨S2, r⟩ := q
  obtain ⟨r1, r2, r3, r4⟩ := C.rm
  have h7 := hP.2.2.2.2.1; have h6 := hP.2.2.1.1; have hz := C.z; have h5 := hP.2.2.2.1; have h8 := hP.2.2.2.2.2.2.2.1
  obtain ⟨hbl, hat⟩ := ct_at C hP As
  exact x_after C hP hl (va_runS (As := As) C.1 (hM S2 r h1) ⟨callB_of n C.1.2.2.2.2 (gw_T C (gw_c hcw)) rfl rfl rfl (C.w hw4) (C.w hw1) hds ⟨by rw [r3]; exact hrm.1, by rw [r4]; exact hrm.2⟩, C.w hw2⟩ ⟨hbl, hat⟩ rfl hn hl.1 rfl (lv_room hct) hd ⟨by rw [r1]; omega, by rw [r2]; omega⟩) (k S2 r h2)
theorem x_end (C : CX p l e R s m args below meth c Q D A K m9 mr own mn cc nL Ts ret fr lo S0 Sf rv) {H : Heap} {locs : List Loc} {ls : Array Slot} (hP : PI D A K m9 mr s.heap S0 S H locs) (hS : S = Sf) (f : ∀ (hq : ∀ t : State, t.heap = H → s.WarmedH t.vm → QC D K m9 mr S0 Sf rv args s (.returned rv) t) (hf : ∀ q ∈ locs, AA K m9 mr S0 q.base), W p l e R s m args below meth c H locs (K.2.1 - Zz S0) (K.2.2 - Zn S0) (MQ below (QC D K m9 mr S0 Sf rv) args s (K.2.1 - Zz S0) (K.2.2 - Zn S0) (AA K m9 mr S0)) (F0 m pc ls st)) : W p l e R s m args below meth c H locs (Zz S - Zz S0) (Zn S - Zn S0) Q (F0 m pc ls st) := by
  subst hS
  obtain ⟨Φ, hΦ, rfl⟩ := C.2.2.2.2.2.2.2.2.2.2.2
  refine W.mono (Q := MQ below (QC D K m9 mr S0 S rv) args s (K.2.1 - Zz S0) (K.2.2 - Zn S0) (AA K m9 mr S0)) ?_ (fun t q => by obtain ⟨o, a1, a2, a3, a4⟩ := q; exact ⟨o, a1, a2, ⟨S, rv, hΦ, a3⟩, a4⟩)
  refine W.grow (fun hg0 hg1 => ?_)
  have h8 := hP.2.2.2.2.2.2.2.1
  refine W.widen (k := K.2.1 - Zz S0) (n := K.2.2 - Zn S0) (by omega) (by omega) ?_
  have hP := hP
  rw [C.ae] at hP
  exact f (fun t ht hW => ⟨rfl, by rw [ht]; exact ⟨hP.1, hP.2.1, ⟨hP.2.2.1.1, hP.2.2.1.2.1, fun _ h => by cases h⟩, hP.2.2.2⟩, by rw [ht]; exact hg1, hP.2.2.1.F ht⟩) hP.2.2.1.2.2
theorem CX.rt (C : CX p l e R s m args below meth c Q D A K m9 mr own mn cc nL Ts ret fr lo S0 Sf rv) : meth.sig.returnType = ret := C.2.2.2.2.2.2.2.1
theorem CX.lk (C : CX p l e R s m args below meth c Q D A K m9 mr own mn cc nL Ts ret fr lo S0 Sf rv) : meth.locks = false := C.2.2.2.2.2.2.2.2.1.1
theorem x_vret (C : CX p l e R s m args below meth c Q D A K m9 mr own mn cc nL Ts ret fr lo S0 Sf rv) (hr : ret = none) (hv : rv = none) (hd : decode cc pc = .ok (.return_, 1)) (h : some (S, ()) = some (Sf, ())) : WX p l e R s m args below meth c Q D A K m9 mr nL S0 S pc lv [] := fun H locs ls hP hl => x_end C hP (congrArg Prod.fst (Option.some.inj h)) (fun hq hf => by subst hv; exact W.vret C.x C.b (C.rt.trans hr) hq hf hd C.lk)
theorem x_iret (C : CX p l e R s m args below meth c Q D A K m9 mr own mn cc nL Ts ret fr lo S0 Sf rv) {v rf : Int32} (hr : ret = some .int) (hv : rv = some (.int rf)) (hd : decode cc pc = .ok (.ireturn, 1)) (h : some (S, v) = some (Sf, rf)) : WX p l e R s m args below meth c Q D A K m9 mr nL S0 S pc lv ([.int v]) := fun H locs ls hP hl => x_end C hP (congrArg Prod.fst (Option.some.inj h)) (fun hq hf => by obtain rfl : v = rf := congrArg Prod.snd (Option.some.inj h); subst hv; exact W.iret C.x C.b (C.rt.trans hr) hq hf hd C.lk)
/-- a flag -/
def zB (v : Int32) : Option Unit := if v = 0 ∨ v = 1 then some () else none
theorem x_zret (C : CX p l e R s m args below meth c Q D A K m9 mr own mn cc nL Ts ret fr lo S0 Sf rv) {v rf : Int32} (hr : ret = some .boolean) (hv : rv = some (.int rf)) (hd : decode cc pc = .ok (.ireturn, 1)) (h : (zB v).bind (fun _ => some (S, v)) = some (Sf, rf)) : WX p l e R s m args below meth c Q D A K m9 mr nL S0 S pc lv ([.int v]) := fun H locs ls hP hl => by
  obtain ⟨_, h1, h2⟩ := ob h
  obtain ⟨h3, _⟩ := pg h1
  exact x_end C hP (congrArg Prod.fst (Option.some.inj h2)) (fun hq hf => by obtain rfl : v = rf := congrArg Prod.snd (Option.some.inj h2); subst hv; exact W.zret (ty := .boolean) C.x C.b (C.rt.trans hr) (by rcases h3 with rfl | rfl <;> decide) hq hf hd C.lk)
theorem x_lret (C : CX p l e R s m args below meth c Q D A K m9 mr own mn cc nL Ts ret fr lo S0 Sf rv) {v rf : Int64} (hr : ret = some .long) (hv : rv = some (.long rf)) (hd : decode cc pc = .ok (.lreturn, 1)) (h : some (S, v) = some (Sf, rf)) : WX p l e R s m args below meth c Q D A K m9 mr nL S0 S pc lv ([.long v]) := fun H locs ls hP hl => x_end C hP (congrArg Prod.fst (Option.some.inj h)) (fun hq hf => by obtain rfl : v = rf := congrArg Prod.snd (Option.some.inj h); subst hv; exact W.lret C.x C.b (C.rt.trans hr) hq hf hd C.lk)
theorem x_aret (C : CX p l e R s m args below meth c Q D A K m9 mr own mn cc nL Ts ret fr lo S0 Sf rv) {v rf : Option Nat} {ty : FieldType} (hr : ret = some ty) (hty : (∃ n, ty = .object n) ∨ ∃ t, ty = .array t) (hv : rv = some (va_rf rf)) (hd : decode cc pc = .ok (.areturn, 1)) (h : some (S, v) = some (Sf, rf)) : WX p l e R s m args below meth c Q D A K m9 mr nL S0 S pc lv ([va_rf v]) := fun H locs ls hP hl => x_end C hP (congrArg Prod.fst (Option.some.inj h)) (fun hq hf => by obtain rfl : v = rf := congrArg Prod.snd (Option.some.inj h); subst hv; exact W.aret C.x C.b (C.rt.trans hr) hty (va_rf_or _) hq hf hd C.lk)
end XJ
theorem x_start {l : Launch} {D : va_G} {K : Ky} {m9 : Nat} {mr : Nat → Nat} {y : MethodName} {cc : ByteArray} {nL fr lo : Nat} {ret : Option FieldType} {S Sf : Sg} {av : List Value} {rv : Option Value} {lv : List (Nat × Value)} {own mn : String} (ho : y.cls = own) (hm : y.name = mn) (hy : plainName y.cls = true) (hlv : lv_args 0 av = lv) (hlen : (lg_sl av).length ≤ nL)
    (body : ∀ (p : Program) (e : Env) (R : Room) (s : State) (m : MethodId) (args : Array Value) (below : List Frame) (meth : Method) (c : Code) (Q : State → Prop) (A : Nat → Prop), CX p l e R s m args below meth c Q D A K m9 mr own mn cc nL (Cond.code y cc nL ret :: wR) ret fr lo S Sf rv → WX p l e R s m args below meth c Q D A K m9 mr nL S S 0 lv []) : CT l D K m9 mr y (Cond.code y cc nL ret) fr lo S Sf av rv := by
  subst ho; subst hm
  refine Met.ofW (cc := cc) (maxL := nL) (ret := ret) hy rfl ?_
  intro p e s m args below meth c s₁ B hml hv
  obtain ⟨rfl, hP, hK, hns, hnw⟩ := hv
  have hz : Zz S = s.heap.size := hP.2.2.2.1.symm
  have hl := lv_entry av (n := nL) hlen
  rw [lg_entry_eq]
  generalize (lg_sl av ++ List.replicate (nL - (lg_sl av).length) Slot.unset).toArray = ls at hl ⊢
  rw [hlv] at hl
  refine W.mono (Q := MQ below (QCP D K m9 mr S (fun a b => a = Sf ∧ b = rv)) av.toArray s (K.2.1 - Zz S) (K.2.2 - Zn S) (AA K m9 mr S)) ?_ (fun t q => by obtain ⟨o, a1, a2, ⟨_, _, ⟨rfl, rfl⟩, a3⟩, a4⟩ := q; exact ⟨o, a1, a2, a3, a4⟩)
  have hC : CX p l e (headSpec (Cond.code y cc nL ret :: wR) ({ frames := fr, cells := K.2.1 - Zz S, slots := K.2.2 - Zn S, locals := lo } : Room)).room s m av.toArray below meth c (MQ below (QCP D K m9 mr S (fun a b => a = Sf ∧ b = rv)) av.toArray s (K.2.1 - Zz S) (K.2.2 - Zn S) (AA K m9 mr S)) D (AA K m9 mr S) K m9 mr y.cls y.name cc nL (Cond.code y cc nL ret :: wR) ret fr lo S Sf rv :=
    ⟨⟨B.exec, B.bytes, hml, findClass_of_methodNamed B.named, atoms_spec (ws := Cond.code y cc nL ret :: wR) B.pre⟩, fun w h => List.mem_cons_of_mem _ h, hK, hns, hnw, fun q h => Or.inr (by rw [hz]; exact h), ⟨rfl, rfl, rfl, rfl⟩, B.returns, ⟨B.notSynchronized, (name_of_methodNamed B.named B.method).1⟩, hz, rfl, _, ⟨rfl, rfl⟩, rfl⟩
  have h1 := body p e _ s m av.toArray below meth c _ _ hC s.heap [] ls ⟨hP.1, hP.2.1.self, va_S.rf, hP.2.2.2⟩ hl
  rw [Nat.sub_self, Nat.sub_self] at h1
  exact h1
