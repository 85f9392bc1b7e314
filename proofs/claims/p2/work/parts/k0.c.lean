/-- how a method of the reference ends -/
def QC (D : va_G) (K : Ky) (m9 : Nat) (mr : Nat → Nat) (S0 Sf : Sg) (rv : Option Value) : Array Value → State → Outcome → State → Prop := fun _ st o t => o = .returned rv ∧ PI D (AA K m9 mr S0) K m9 mr st.heap S0 Sf t.heap [] ∧ slN t.heap ≤ slN st.heap + (Zn Sf - Zn S0) ∧ va_F (AA K m9 mr S0) st t
/-- .. in one of the ways of Φ -/
def QCP (D : va_G) (K : Ky) (m9 : Nat) (mr : Nat → Nat) (S0 : Sg) (Φ : Sg → Option Value → Prop) : Array Value → State → Outcome → State → Prop := fun a st o t => ∃ (Sf : Sg) (rv : Option Value), Φ Sf rv ∧ QC D K m9 mr S0 Sf rv a st o t
/-- a method of the reference: from S it comes to Sf -/
def CT (l : Launch) (D : va_G) (K : Ky) (m9 : Nat) (mr : Nat → Nat) (y : MethodName) (cd : Cond) (fr lo : Nat) (S Sf : Sg) (av : List Value) (rv : Option Value) : Prop :=
  Met l y (cd :: wR) { frames := fr, cells := K.2.1 - Zz S, slots := K.2.2 - Zn S, locals := lo } (va_Pc av (fun U => PI D (fun _ => True) K m9 mr U.heap S S U.heap [] ∧ va_K D vwCl (TY K.1) U ∧ nsM U ∧ nwA U)) (QC D K m9 mr S Sf rv) (K.2.1 - Zz S) (K.2.2 - Zn S) (AA K m9 mr S)
def CX (p : Program) (l : Launch) (e : Env) (R : Room) (s : State) (m : MethodId) (args : Array Value) (below : List Frame) (meth : Method) (c : Code) (Q : State → Prop) (D : va_G) (A : Nat → Prop) (K : Ky) (m9 : Nat) (mr : Nat → Nat) (own mn : String) (cc : ByteArray) (nL : Nat) (Ts : List Cond) (ret : Option FieldType) (fr lo : Nat) (S0 Sf : Sg) (rv : Option Value) : Prop :=
  CallFix p m c cc nL s args Ts own ∧ (∀ w ∈ wR, w ∈ Ts) ∧ va_K D vwCl (TY K.1) s ∧ nsM s ∧ nwA s ∧ (∀ q : Nat, s.heap.size ≤ q → A q) ∧ (R.cells = K.2.1 - Zz S0 ∧ R.slots = K.2.2 - Zn S0 ∧ R.frames = fr ∧ R.locals = lo) ∧ meth.sig.returnType = ret ∧ (meth.locks = false ∧ meth.name = mn) ∧ Zz S0 = s.heap.size ∧ A = AA K m9 mr S0 ∧ ∃ Φ : Sg → Option Value → Prop, Φ Sf rv ∧ Q = MQ below (QCP D K m9 mr S0 Φ) args s (K.2.1 - Zz S0) (K.2.2 - Zn S0) (AA K m9 mr S0)
def WX (p : Program) (l : Launch) (e : Env) (R : Room) (s : State) (m : MethodId) (args : Array Value) (below : List Frame) (meth : Method) (c : Code) (Q : State → Prop) (D : va_G) (A : Nat → Prop) (K : Ky) (m9 : Nat) (mr : Nat → Nat) (nL : Nat) (S0 : Sg) (S : Sg) (pc : Nat) (lv : List (Nat × Value)) (st : List Value) : Prop :=
  ∀ (H : Heap) (locs : List Loc) (ls : Array Slot), PI D A K m9 mr s.heap S0 S H locs → lv_has ls nL lv → W p l e R s m args below meth c H locs (Zz S - Zz S0) (Zn S - Zn S0) Q (F0 m pc ls st)
theorem cat_rf (o : Option Nat) : (va_rf o).category = 1 := by cases o <;> rfl
/-- behind i no long begins -/
def okc (i : Nat) : List (Nat × Value) → Prop
  | [] => True
  | q :: t => (if q.1 + 1 = i then q.2.category = 1 else True) ∧ okc i t
theorem okc_of {i : Nat} : ∀ {l : List (Nat × Value)}, okc i l → ∀ q ∈ l, q.1 + 1 = i → q.2.category = 1
  | [], _, _, h, _ => by cases h
  | x :: t, h, q, hq, e => by
    rcases List.mem_cons.mp hq with rfl | hq
    · have := h.1; rw [if_pos e] at this; exact this
    · exact okc_of h.2 q hq e
section XL
variable {p : Program} {l : Launch} {e : Env} {R : Room} {s : State} {m : MethodId} {args : Array Value} {below : List Frame} {meth : Method} {c : Code} {Q : State → Prop} {D : va_G} {A : Nat → Prop} {K : Ky} {m9 : Nat} {mr : Nat → Nat} {own mn : String} {cc : ByteArray} {nL : Nat} {Ts : List Cond} {ret : Option FieldType} {fr lo : Nat} {S0 Sf : Sg} {rv : Option Value}
variable {S : Sg} {pc : Nat} {lv : List (Nat × Value)} {st : List Value} {ρ : Type} {Rr : ρ}
theorem CX.x (C : CX p l e R s m args below meth c Q D A K m9 mr own mn cc nL Ts ret fr lo S0 Sf rv) : p.tables.exec = Jvm.exec := C.1.1
theorem CX.b (C : CX p l e R s m args below meth c Q D A K m9 mr own mn cc nL Ts ret fr lo S0 Sf rv) : c.code = cc := C.1.2.1
theorem CX.o (C : CX p l e R s m args below meth c Q D A K m9 mr own mn cc nL Ts ret fr lo S0 Sf rv) : s.vm.findClass own = some m.cls := C.1.2.2.2.1
theorem CX.w (C : CX p l e R s m args below meth c Q D A K m9 mr own mn cc nL Ts ret fr lo S0 Sf rv) {w : Cond} (h : w ∈ wR) : w.before args s = true := C.1.2.2.2.2 w (C.2.1 w h)
theorem CX.kk (C : CX p l e R s m args below meth c Q D A K m9 mr own mn cc nL Ts ret fr lo S0 Sf rv) : va_K D vwCl (TY K.1) s := C.2.2.1
theorem CX.z (C : CX p l e R s m args below meth c Q D A K m9 mr own mn cc nL Ts ret fr lo S0 Sf rv) : Zz S0 = s.heap.size := C.2.2.2.2.2.2.2.2.2.1
theorem CX.ae (C : CX p l e R s m args below meth c Q D A K m9 mr own mn cc nL Ts ret fr lo S0 Sf rv) : A = AA K m9 mr S0 := C.2.2.2.2.2.2.2.2.2.2.1
theorem CX.rm (C : CX p l e R s m args below meth c Q D A K m9 mr own mn cc nL Ts ret fr lo S0 Sf rv) : R.cells = K.2.1 - Zz S0 ∧ R.slots = K.2.2 - Zn S0 ∧ R.frames = fr ∧ R.locals = lo := C.2.2.2.2.2.2.1
theorem CX.A9 (C : CX p l e R s m args below meth c Q D A K m9 mr own mn cc nL Ts ret fr lo S0 Sf rv) : ∀ q : Nat, s.heap.size ≤ q → A q := C.2.2.2.2.2.1
/-- one instruction that touches neither heap nor locals -/
theorem WX.st1 {S : Sg} {pc pc2 : Nat} {lv : List (Nat × Value)} {st st2 : List Value} (k : WX p l e R s m args below meth c Q D A K m9 mr nL S0 S pc2 lv st2) (f : ∀ (H : Heap) (locs : List Loc) (cells slots : Nat) (ls : Array Slot), lv_has ls nL lv → W p l e R s m args below meth c H locs cells slots Q (F0 m pc2 ls st2) → W p l e R s m args below meth c H locs cells slots Q (F0 m pc ls st)) : WX p l e R s m args below meth c Q D A K m9 mr nL S0 S pc lv st := fun H locs ls hP hl => f H locs _ _ ls hl (k H locs ls hP hl)
theorem x_sub {lv2 : List (Nat × Value)} (ks : List Nat) (h : lv_pick lv ks = lv2) (k : WX p l e R s m args below meth c Q D A K m9 mr nL S0 S pc lv2 st) : WX p l e R s m args below meth c Q D A K m9 mr nL S0 S pc lv st := fun H locs ls hP hl => k H locs ls hP (lv_sub hl ks h)
end XL
