/-- a field of an object of the store, as a value -/
def ov (S : Sg) (ci : Nat) (o : Option Nat) (k : Nat) : Option Value := match o with
  | none => none
  | some a => if a ∈ ZL S then (match ZF S a with
    | .inl _ => none
    | .inr (d, fs) => if d = ci then fs[k]? else none) else none
def vI : Value → Option Int32
  | .int v => some v
  | _ => none
def vJ : Value → Option Int64
  | .long v => some v
  | _ => none
def vR : Value → Option (Option Nat)
  | .null => some none
  | .ref a => some (some a)
  | _ => none
def oI (S : Sg) (ci : Nat) (o : Option Nat) (k : Nat) : Option Int32 := (ov S ci o k).bind vI
def oJ (S : Sg) (ci : Nat) (o : Option Nat) (k : Nat) : Option Int64 := (ov S ci o k).bind vJ
def oR (S : Sg) (ci : Nat) (o : Option Nat) (k : Nat) : Option (Option Nat) := (ov S ci o k).bind vR
theorem ov_of {S : Sg} {ci k : Nat} {o : Option Nat} {v : Value} (h : ov S ci o k = some v) : ∃ (a : Nat) (fs : List Value), o = some a ∧ a ∈ ZL S ∧ ZF S a = .inr (ci, fs) ∧ fs[k]? = some v := by
  unfold ov at h
  cases o with
  | none => cases h
  | some a =>
    by_cases ha : a ∈ ZL S
    · have h := (if_pos ha).symm.trans h
      cases e : ZF S a with
      | inl x => rw [e] at h; cases h
      | inr x =>
        obtain ⟨d, fs⟩ := x
        rw [e] at h
        by_cases hd : d = ci
        · subst hd
          have h := (if_pos rfl).symm.trans h
          exact ⟨a, fs, rfl, ha, e, h⟩
        · have h := (if_neg hd).symm.trans h
          cases h
    · have h := (if_neg ha).symm.trans h
      cases h
theorem ov_mk {S : Sg} {ci k a : Nat} {fs : List Value} {v : Value} (ha : a ∈ ZL S) (hF : ZF S a = .inr (ci, fs)) (hv : fs[k]? = some v) : ov S ci (some a) k = some v := by
  show (if a ∈ ZL S then _ else none) = some v
  rw [if_pos ha, hF]
  exact (if_pos rfl).trans hv
theorem vI_of {v : Value} {x : Int32} (h : vI v = some x) : v = .int x := by cases v <;> cases h; rfl
theorem vJ_of {v : Value} {x : Int64} (h : vJ v = some x) : v = .long x := by cases v <;> cases h; rfl
theorem vR_of {v : Value} {x : Option Nat} (h : vR v = some x) : v = va_rf x := by cases v <;> cases h <;> rfl
theorem oI_mk {S : Sg} {ci k a : Nat} {fs : List Value} {v : Int32} (ha : a ∈ ZL S) (hF : ZF S a = .inr (ci, fs)) (hv : fs[k]? = some (.int v)) : oI S ci (some a) k = some v := by unfold oI; rw [ov_mk ha hF hv]; rfl
theorem oJ_mk {S : Sg} {ci k a : Nat} {fs : List Value} {v : Int64} (ha : a ∈ ZL S) (hF : ZF S a = .inr (ci, fs)) (hv : fs[k]? = some (.long v)) : oJ S ci (some a) k = some v := by unfold oJ; rw [ov_mk ha hF hv]; rfl
theorem oR_mk {S : Sg} {ci k a : Nat} {fs : List Value} {v : Option Nat} (ha : a ∈ ZL S) (hF : ZF S a = .inr (ci, fs)) (hv : fs[k]? = some (va_rf v)) : oR S ci (some a) k = some v := by unfold oR; rw [ov_mk ha hF hv]; cases v <;> rfl
/-- a field of an object of the store is written -/
def pV (S : Sg) (ci : Nat) (o : Option Nat) (k : Nat) (v : Value) : Option Sg := match o with
  | none => none
  | some a => if a ∈ ZL S then (match ZF S a with
    | .inl _ => none
    | .inr (d, fs) => if d = ci ∧ k < fs.length then some (UF S a (.inr (ci, fs.set k v))) else none) else none
theorem pV_of {S S2 : Sg} {ci k : Nat} {o : Option Nat} {v : Value} (h : pV S ci o k v = some S2) : ∃ (a : Nat) (fs : List Value), o = some a ∧ a ∈ ZL S ∧ ZF S a = .inr (ci, fs) ∧ k < fs.length ∧ S2 = UF S a (.inr (ci, fs.set k v)) := by
  unfold pV at h
  cases o with
  | none => cases h
  | some a =>
    by_cases ha : a ∈ ZL S
    · have h := (if_pos ha).symm.trans h
      cases e : ZF S a with
      | inl x => rw [e] at h; cases h
      | inr x =>
        obtain ⟨d, fs⟩ := x
        rw [e] at h
        by_cases hd : d = ci ∧ k < fs.length
        · have h := (if_pos hd).symm.trans h
          obtain ⟨rfl, hk⟩ := hd
          exact ⟨a, fs, rfl, ha, e, hk, (Option.some.inj h).symm⟩
        · have h := (if_neg hd).symm.trans h
          cases h
    · have h := (if_neg ha).symm.trans h
      cases h
theorem pV_mk {S : Sg} {ci k a : Nat} {fs : List Value} {v : Value} (ha : a ∈ ZL S) (hF : ZF S a = .inr (ci, fs)) (hk : k < fs.length) : pV S ci (some a) k v = some (UF S a (.inr (ci, fs.set k v))) := by
  show (if a ∈ ZL S then _ else none) = _
  rw [if_pos ha, hF]
  exact if_pos ⟨rfl, hk⟩
def isZ (v : Int32) : Prop := v = 0 ∨ v = 1
/-- .. a flag -/
def pZ (S : Sg) (ci : Nat) (o : Option Nat) (k : Nat) (v : Int32) : Option Sg := if v = 0 ∨ v = 1 then pV S ci o k (.int v) else none
/-- the reference's own ints -/
def pM (S : Sg) (k : Nat) (v : Int32) : Option Sg := some (Ui S k v)
def pMf (S : Sg) (o : Option Nat) : Option Sg := some (Uf S o)
/-- rows of the reference -/
def inB (j : Int32) (n : Nat) : Prop := j < 0 ∨ n ≤ j.toNatClampNeg
def rI (S : Sg) (r : Nat) (j : Int32) : Option Int32 := if j < 0 ∨ rlen r ≤ j.toNatClampNeg then none else some (Zr S r j.toNatClampNeg)
def rJ (S : Sg) (r : Nat) (j : Int32) : Option Int64 := if j < 0 ∨ rlen r ≤ j.toNatClampNeg then none else some (Zl S r j.toNatClampNeg)
def rQ (S : Sg) (r : Nat) (j : Int32) : Option (Option Nat) := if j < 0 ∨ rlen r ≤ j.toNatClampNeg then none else some (Zq S r j.toNatClampNeg)
def wRI (S : Sg) (r : Nat) (j v : Int32) : Option Sg := if j < 0 ∨ rlen r ≤ j.toNatClampNeg then none else some (Ur S r (upd (Zr S r) j.toNatClampNeg v))
def wZ (S : Sg) (r : Nat) (j v : Int32) : Option Sg := if j < 0 ∨ rlen r ≤ j.toNatClampNeg then none else if v = 0 ∨ v = 1 then some (Ur S r (upd (Zr S r) j.toNatClampNeg v)) else none
def wJ (S : Sg) (r : Nat) (j : Int32) (v : Int64) : Option Sg := if j < 0 ∨ rlen r ≤ j.toNatClampNeg then none else some (Ul S r (vp_updL (Zl S r) j.toNatClampNeg v))
/-- null, or an object of the class ci -/
def okO (S : Sg) (ci : Nat) (v : Option Nat) : Bool := match v with
  | none => true
  | some b => decide (b ∈ ZL S) && (match ZF S b with
    | .inl _ => false
    | .inr (d, _) => d == ci)
/-- null, or a row of ints -/
def okA (K : Ky) (S : Sg) (v : Option Nat) : Bool := match v with
  | none => true
  | some b => decide (b ∈ ZL S) && (match ZF S b with
    | .inl (cA, _, .inl _) => cA == K.1 0
    | _ => false)
def wQ (S : Sg) (ci r : Nat) (j : Int32) (v : Option Nat) : Option Sg := if j < 0 ∨ rlen r ≤ j.toNatClampNeg then none else if okO S ci v then some (Uq S r (va_up (Zq S r) j.toNatClampNeg v)) else none
def wA (K : Ky) (S : Sg) (r : Nat) (j : Int32) (v : Option Nat) : Option Sg := if j < 0 ∨ rlen r ≤ j.toNatClampNeg then none else if okA K S v then some (Uq S r (va_up (Zq S r) j.toNatClampNeg v)) else none
theorem ng {α : Type} {c : Prop} [Decidable c] {a b : Option α} {r : α} (h : (if c then none else b) = some r) : ¬ c ∧ b = some r := by
  by_cases q : c
  · rw [if_pos q] at h; cases h
  · rw [if_neg q] at h; exact ⟨q, h⟩
theorem pg {α : Type} {c : Prop} [Decidable c] {a : Option α} {r : α} (h : (if c then a else none) = some r) : c ∧ a = some r := by
  by_cases q : c
  · rw [if_pos q] at h; exact ⟨q, h⟩
  · rw [if_neg q] at h; cases h
/-- rows in the store -/
def aC (S : Sg) (o : Option Nat) : Option (Nat × ClassId × vp_A) := match o with
  | none => none
  | some a => if a ∈ ZL S then (match ZF S a with
    | .inl x => some (a, x)
    | .inr _ => none) else none
theorem aC_of {S : Sg} {o : Option Nat} {q : Nat × ClassId × vp_A} (h : aC S o = some q) : o = some q.1 ∧ q.1 ∈ ZL S ∧ ZF S q.1 = .inl q.2 := by
  unfold aC at h
  cases o with
  | none => cases h
  | some a =>
    by_cases ha : a ∈ ZL S
    · have h := (if_pos ha).symm.trans h
      cases e : ZF S a with
      | inr x => rw [e] at h; cases h
      | inl x => rw [e] at h; cases h; exact ⟨rfl, ha, e⟩
    · have h := (if_neg ha).symm.trans h
      cases h
theorem aC_mk {S : Sg} {a : Nat} {x : ClassId × vp_A} (ha : a ∈ ZL S) (hF : ZF S a = .inl x) : aC S (some a) = some (a, x) := by
  show (if a ∈ ZL S then _ else none) = _
  rw [if_pos ha, hF]
def aI (K : Ky) (S : Sg) (o : Option Nat) (j : Int32) : Option Int32 := (aC S o).bind fun q => match q.2 with
  | (cA, n, .inl f) => if j < 0 ∨ n ≤ j.toNatClampNeg then none else if cA = K.1 0 then some (f j.toNatClampNeg) else none
  | _ => none
def aQ (K : Ky) (t : Nat) (S : Sg) (o : Option Nat) (j : Int32) : Option (Option Nat) := (aC S o).bind fun q => match q.2 with
  | (cA, n, .inr (.inr (.inr (.inr f)))) => if j < 0 ∨ n ≤ j.toNatClampNeg then none else if cA = K.1 t then some (f j.toNatClampNeg) else none
  | _ => none
def bI (K : Ky) (S : Sg) (o : Option Nat) (j v : Int32) : Option Sg := (aC S o).bind fun q => match q.2 with
  | (cA, n, .inl f) => if j < 0 ∨ n ≤ j.toNatClampNeg then none else if cA = K.1 0 then some (UF S q.1 (.inl (cA, n, .inl (upd f j.toNatClampNeg v)))) else none
  | _ => none
def bQ (K : Ky) (t ci : Nat) (S : Sg) (o : Option Nat) (j : Int32) (v : Option Nat) : Option Sg := (aC S o).bind fun q => match q.2 with
  | (cA, n, .inr (.inr (.inr (.inr f)))) => if j < 0 ∨ n ≤ j.toNatClampNeg then none else if cA = K.1 t then (if okO S ci v then some (UF S q.1 (.inl (cA, n, .inr (.inr (.inr (.inr (va_up f j.toNatClampNeg v))))))) else none) else none
  | _ => none
def aLn (K : Ky) (t : Nat) (S : Sg) (o : Option Nat) : Option Int32 := (aC S o).bind fun q => if q.2.1 = K.1 t then some (Int32.ofNat q.2.2.1) else none
/-- a new object, a new row of ints -/
def nO (K : Ky) (S : Sg) (ci N : Nat) (fs : List Value) : Option (Sg × Nat) := if Zz S + 1 ≤ K.2.1 ∧ Zn S + N ≤ K.2.2 then some (Un S (.inr (ci, fs)) N, Zz S) else none
def nA (K : Ky) (S : Sg) (n : Int32) : Option (Sg × Nat) := if n < 0 then none else if n.toNatClampNeg ≤ 100000 ∧ Zz S + 1 ≤ K.2.1 ∧ Zn S + n.toNatClampNeg ≤ K.2.2 then some (Un S (.inl (K.1 0, n.toNatClampNeg, .inl (fun _ => 0))) n.toNatClampNeg, Zz S) else none
section XH
variable {p : Program} {l : Launch} {e : Env} {R : Room} {s : State} {m : MethodId} {args : Array Value} {below : List Frame} {meth : Method} {c : Code} {Q : State → Prop} {D : va_G} {A : Nat → Prop} {K : Ky} {m9 : Nat} {mr : Nat → Nat} {own mn : String} {cc : ByteArray} {nL : Nat} {Ts : List Cond} {ret : Option FieldType} {fr lo : Nat} {S0 Sf : Sg} {rv : Option Value}
variable {S : Sg} {pc : Nat} {lv : List (Nat × Value)} {st : List Value} {ρ : Type} {Rr : ρ}
theorem WX.put (C : CX p l e R s m args below meth c Q D A K m9 mr own mn cc nL Ts ret fr lo S0 Sf rv) {H : Heap} {locs : List Loc} (hP : PI D A K m9 mr s.heap S0 S H locs) {S2 : Sg} {a : Nat} {c1 : va_E} (ha : a ∈ LL m9 mr S) {H1 : Heap} {locs1 : List Loc} (hP1 : va_P D vwCl ([(a, c1)] ++ sT ((LL m9 mr S).erase a) (FF K.1 m9 mr S)) H1) (hD1 : va_D A ([(a, c1)] ++ sT ((LL m9 mr S).erase a) (FF K.1 m9 mr S))) (hS1 : va_S A H H1 locs1) (hL : ZL S2 = ZL S) (hF : FF K.1 m9 mr S2 = updE (FF K.1 m9 mr S) a c1) (e1 : Zz S2 = Zz S) (e2 : Zn S2 = Zn S) {ls : Array Slot} (hl : lv_has ls nL lv) (k : WX p l e R s m args below meth c Q D A K m9 mr nL S0 S2 pc lv st) : W p l e R s m args below meth c H1 locs1 (Zz S - Zz S0) (Zn S - Zn S0) Q (F0 m pc ls st) := by
  refine W.grow (fun hg0 _ => ?_)
  have h1 := hS1.1; have h2 := hP.2.2.2.1; have h3 := C.z; have h4 := hP.2.2.1.1
  have := k H1 locs1 ls (hP.bk ha hP1 hD1 (hP.2.2.1.tr hS1) (by omega) hL hF e1 e2) hl
  rw [e1, e2] at this
  exact this
theorem x_gV (C : CX p l e R s m args below meth c Q D A K m9 mr own mn cc nL Ts ret fr lo S0 Sf rv) {o9 : Option Nat} {ci k9 idx : Nat} {Cn : String} {T : u_T} {N : Nat} {v : Value} (hc : vwCl[ci]? = some (Cn, T, N)) (hT : ∀ w ∈ u_ws Cn T N, w ∈ wR) (hk : k9 < N) (hw : Cond.fieldLink own idx (T k9).1 (T k9).2.1 (T k9).2.2.1 ∈ wR) (hd : decode cc pc = .ok (.getfield idx, 3)) (h : ov S ci o9 k9 = some v) (k : WX p l e R s m args below meth c Q D A K m9 mr nL S0 S (pc + 3) lv (v :: st)) : WX p l e R s m args below meth c Q D A K m9 mr nL S0 S pc lv (va_rf o9 :: st) := fun H locs ls hP hl => by
  obtain ⟨a, fs, rfl, ha, hF, hv⟩ := ov_of h
  exact va_get C.x C.b C.1.2.2.2.2 (fun w h => C.2.1 w (hT w h)) C.o C.kk (hP.one (LLl ha) ((hP.FFL ha).trans hF)) 0 rfl hc k9 hk (C.w hw) (fun _ h9 => h9) hv hd (k H locs ls hP hl)
theorem x_gI (C : CX p l e R s m args below meth c Q D A K m9 mr own mn cc nL Ts ret fr lo S0 Sf rv) {o9 : Option Nat} {ci k9 idx : Nat} {Cn : String} {T : u_T} {N : Nat} {g : Int32 → Option ρ} (hc : vwCl[ci]? = some (Cn, T, N)) (hT : ∀ w ∈ u_ws Cn T N, w ∈ wR) (hk : k9 < N) (hw : Cond.fieldLink own idx (T k9).1 (T k9).2.1 (T k9).2.2.1 ∈ wR) (hd : decode cc pc = .ok (.getfield idx, 3)) (h : (oI S ci o9 k9).bind g = some Rr) (k : ∀ v : Int32, g v = some Rr → WX p l e R s m args below meth c Q D A K m9 mr nL S0 S (pc + 3) lv (.int v :: st)) : WX p l e R s m args below meth c Q D A K m9 mr nL S0 S pc lv (va_rf o9 :: st) := by
  obtain ⟨v, h1, h2⟩ := ob h
  obtain ⟨w, h3, h4⟩ := ob h1
  rw [vI_of h4] at h3
  exact x_gV C hc hT hk hw hd h3 (k v h2)
theorem x_gJ (C : CX p l e R s m args below meth c Q D A K m9 mr own mn cc nL Ts ret fr lo S0 Sf rv) {o9 : Option Nat} {ci k9 idx : Nat} {Cn : String} {T : u_T} {N : Nat} {g : Int64 → Option ρ} (hc : vwCl[ci]? = some (Cn, T, N)) (hT : ∀ w ∈ u_ws Cn T N, w ∈ wR) (hk : k9 < N) (hw : Cond.fieldLink own idx (T k9).1 (T k9).2.1 (T k9).2.2.1 ∈ wR) (hd : decode cc pc = .ok (.getfield idx, 3)) (h : (oJ S ci o9 k9).bind g = some Rr) (k : ∀ v : Int64, g v = some Rr → WX p l e R s m args below meth c Q D A K m9 mr nL S0 S (pc + 3) lv (.long v :: st)) : WX p l e R s m args below meth c Q D A K m9 mr nL S0 S pc lv (va_rf o9 :: st) := by
  obtain ⟨v, h1, h2⟩ := ob h
  obtain ⟨w, h3, h4⟩ := ob h1
  rw [vJ_of h4] at h3
  exact x_gV C hc hT hk hw hd h3 (k v h2)
theorem x_gR (C : CX p l e R s m args below meth c Q D A K m9 mr own mn cc nL Ts ret fr lo S0 Sf rv) {o9 : Option Nat} {ci k9 idx : Nat} {Cn : String} {T : u_T} {N : Nat} {g : Option Nat → Option ρ} (hc : vwCl[ci]? = some (Cn, T, N)) (hT : ∀ w ∈ u_ws Cn T N, w ∈ wR) (hk : k9 < N) (hw : Cond.fieldLink own idx (T k9).1 (T k9).2.1 (T k9).2.2.1 ∈ wR) (hd : decode cc pc = .ok (.getfield idx, 3)) (h : (oR S ci o9 k9).bind g = some Rr) (k : ∀ v : Option Nat, g v = some Rr → WX p l e R s m args below meth c Q D A K m9 mr nL S0 S (pc + 3) lv (va_rf v :: st)) : WX p l e R s m args below meth c Q D A K m9 mr nL S0 S pc lv (va_rf o9 :: st) := by
  obtain ⟨v, h1, h2⟩ := ob h
  obtain ⟨w, h3, h4⟩ := ob h1
  rw [vR_of h4] at h3
  exact x_gV C hc hT hk hw hd h3 (k v h2)
theorem x_mV (C : CX p l e R s m args below meth c Q D A K m9 mr own mn cc nL Ts ret fr lo S0 Sf rv) {k9 idx : Nat} {v : Value} (hk : k9 < 89) (hw : Cond.fieldLink own idx (TX23 k9).1 (TX23 k9).2.1 (TX23 k9).2.2.1 ∈ wR) (hd : decode cc pc = .ok (.getfield idx, 3)) (h : (if rlen k9 = 0 then (if k9 = 25 then va_rf (Zf S) else .int (Zi S k9)) else .ref (mr k9)) = v) (k : WX p l e R s m args below meth c Q D A K m9 mr nL S0 S (pc + 3) lv (v :: st)) : WX p l e R s m args below meth c Q D A K m9 mr nL S0 S pc lv (.ref m9 :: st) := fun H locs ls hP hl =>
  va_get C.x C.b C.1.2.2.2.2 (fun w h => C.2.1 w (wt_X23 w h)) C.o C.kk (hP.one LLm FF_m) 0 rfl (ci := 23) (C := RX23) (T := TX23) (N := 89) rfl k9 hk (C.w hw) (fun _ h9 => h9) ((mO_get hk).trans (congrArg some h)) hd (k H locs ls hP hl)
theorem x_pMV (C : CX p l e R s m args below meth c Q D A K m9 mr own mn cc nL Ts ret fr lo S0 Sf rv) {k9 idx : Nat} {v : Value} {ty : FieldType} {S2 : Sg} (hk : k9 < 89) (hw : Cond.fieldLink own idx (TX23 k9).1 (TX23 k9).2.1 (TX23 k9).2.2.1 ∈ wR) (hfin : (TX23 k9).2.2.2 = false) (hty : parseFieldDescriptor (TX23 k9).2.2.1 = some ty) (hn : narrow ty v = v) (hf : fits ty v = true) (hd : decode cc pc = .ok (.putfield idx, 3)) (h0 : mO mr S2 = (mO mr S).set k9 v) (h2 : Zr S2 = Zr S) (h3 : Zl S2 = Zl S) (h4 : Zq S2 = Zq S) (h5 : ZF S2 = ZF S) (h6 : ZL S2 = ZL S) (e1 : Zz S2 = Zz S) (e2 : Zn S2 = Zn S) (k : WX p l e R s m args below meth c Q D A K m9 mr nL S0 S2 (pc + 3) lv st) : WX p l e R s m args below meth c Q D A K m9 mr nL S0 S pc lv (v :: .ref m9 :: st) := fun H locs ls hP hl => by
  obtain ⟨hp, hd1⟩ := hP.fo LLm FF_m
  refine va_put C.x C.b C.1.2.2.2.2 (fun w h => C.2.1 w (wt_X23 w h)) tyX23 tyX23_ok nmX23 C.o C.kk hp hd1 hP.2.2.1.rs 0 rfl (ci := 23) (C := RX23) (T := TX23) (N := 89) rfl k9 hk (C.w hw) (fun _ h9 => h9) hfin hty hn hf (by unfold mO; rw [List.length_map, List.length_range]; exact hk) hd (fun H1 locs1 hP1 hD1 hS1 => ?_)
  exact WX.put C hP LLm hP1 hD1 hS1 h6 (FF_um (by rw [h0]) h2 h3 h4 h5) e1 e2 hl k
theorem x_pM (C : CX p l e R s m args below meth c Q D A K m9 mr own mn cc nL Ts ret fr lo S0 Sf rv) {k9 idx : Nat} {v : Int32} {g : Sg → Option ρ} (hk : k9 < 89) (hr : rlen k9 = 0) (h25 : ¬ k9 = 25) (hw : Cond.fieldLink own idx (TX23 k9).1 (TX23 k9).2.1 (TX23 k9).2.2.1 ∈ wR) (hfin : (TX23 k9).2.2.2 = false) (hty : parseFieldDescriptor (TX23 k9).2.2.1 = some .int) (hd : decode cc pc = .ok (.putfield idx, 3)) (h : (pM S k9 v).bind g = some Rr) (k : ∀ S2 : Sg, g S2 = some Rr → WX p l e R s m args below meth c Q D A K m9 mr nL S0 S2 (pc + 3) lv st) : WX p l e R s m args below meth c Q D A K m9 mr nL S0 S pc lv (.int v :: .ref m9 :: st) :=
  x_pMV (S2 := Ui S k9 v) C hk hw hfin hty rfl rfl hd (mO_set hk (fun j hj => if_neg hj) (fun _ => rfl) (by rw [if_pos hr, if_neg h25]; exact congrArg Value.int (if_pos rfl))) rfl rfl rfl rfl rfl rfl rfl (k _ h)
theorem x_pMf (C : CX p l e R s m args below meth c Q D A K m9 mr own mn cc nL Ts ret fr lo S0 Sf rv) {idx : Nat} {v : Option Nat} {g : Sg → Option ρ} (hw : Cond.fieldLink own idx (TX23 25).1 (TX23 25).2.1 (TX23 25).2.2.1 ∈ wR) (hd : decode cc pc = .ok (.putfield idx, 3)) (h : (pMf S v).bind g = some Rr) (k : ∀ S2 : Sg, g S2 = some Rr → WX p l e R s m args below meth c Q D A K m9 mr nL S0 S2 (pc + 3) lv st) : WX p l e R s m args below meth c Q D A K m9 mr nL S0 S pc lv (va_rf v :: .ref m9 :: st) :=
  x_pMV (S2 := Uf S v) C (by decide) hw rfl (ty := .object RX16) (by decide +kernel) (by cases v <;> rfl) (by cases v <;> rfl) hd (mO_set (by decide) (fun j hj => rfl) (fun q => absurd rfl q) (by rw [if_pos (show rlen 25 = 0 from rfl), if_pos rfl]; rfl)) rfl rfl rfl rfl rfl rfl rfl (k _ h)
theorem x_pV (C : CX p l e R s m args below meth c Q D A K m9 mr own mn cc nL Ts ret fr lo S0 Sf rv) {o9 : Option Nat} {ci k9 idx : Nat} {Cn : String} {T : u_T} {N : Nat} {v : Value} {ty : FieldType} {ty0 : Nat → FieldType} {S2 : Sg} (hc : vwCl[ci]? = some (Cn, T, N)) (hT : ∀ w ∈ u_ws Cn T N, w ∈ wR) (hty0 : ∀ k, k < N → parseFieldDescriptor (T k).2.2.1 = some (ty0 k)) (hnm : ∀ a, a < N → ∀ b, b < N → a ≠ b → (T a).2.1 ≠ (T b).2.1) (hk : k9 < N) (hw : Cond.fieldLink own idx (T k9).1 (T k9).2.1 (T k9).2.2.1 ∈ wR) (hfin : (T k9).2.2.2 = false) (hty : parseFieldDescriptor (T k9).2.2.1 = some ty) (hn : narrow ty v = v) (hf : fits ty v = true) (hd : decode cc pc = .ok (.putfield idx, 3)) (h : pV S ci o9 k9 v = some S2) (k : WX p l e R s m args below meth c Q D A K m9 mr nL S0 S2 (pc + 3) lv st) : WX p l e R s m args below meth c Q D A K m9 mr nL S0 S pc lv (v :: va_rf o9 :: st) := fun H locs ls hP hl => by
  obtain ⟨a, fs, rfl, ha, hF, hlen, rfl⟩ := pV_of h
  obtain ⟨hp, hd1⟩ := hP.fo (LLl ha) ((hP.FFL ha).trans hF)
  refine va_put C.x C.b C.1.2.2.2.2 (fun w h => C.2.1 w (hT w h)) ty0 hty0 hnm C.o C.kk hp hd1 hP.2.2.1.rs 0 rfl hc k9 hk (C.w hw) (fun _ h9 => h9) hfin hty hn hf hlen hd (fun H1 locs1 hP1 hD1 hS1 => ?_)
  exact WX.put (S2 := UF S a (.inr (ci, fs.set k9 v))) C hP (LLl ha) hP1 hD1 hS1 rfl (hP.uF ha) rfl rfl hl k
theorem x_pI (C : CX p l e R s m args below meth c Q D A K m9 mr own mn cc nL Ts ret fr lo S0 Sf rv) {v : Int32} {o9 : Option Nat} {ci k9 idx : Nat} {Cn : String} {T : u_T} {N : Nat} {ty0 : Nat → FieldType} {g : Sg → Option ρ} (hc : vwCl[ci]? = some (Cn, T, N)) (hT : ∀ w ∈ u_ws Cn T N, w ∈ wR) (hty0 : ∀ k, k < N → parseFieldDescriptor (T k).2.2.1 = some (ty0 k)) (hnm : ∀ a, a < N → ∀ b, b < N → a ≠ b → (T a).2.1 ≠ (T b).2.1) (hk : k9 < N) (hw : Cond.fieldLink own idx (T k9).1 (T k9).2.1 (T k9).2.2.1 ∈ wR) (hfin : (T k9).2.2.2 = false) (hty : parseFieldDescriptor (T k9).2.2.1 = some .int) (hd : decode cc pc = .ok (.putfield idx, 3)) (h : (pV S ci o9 k9 (.int v)).bind g = some Rr) (k : ∀ S2 : Sg, g S2 = some Rr → WX p l e R s m args below meth c Q D A K m9 mr nL S0 S2 (pc + 3) lv st) : WX p l e R s m args below meth c Q D A K m9 mr nL S0 S pc lv (.int v :: va_rf o9 :: st) := by
  obtain ⟨S2, h1, h2⟩ := ob h
  exact x_pV C hc hT hty0 hnm hk hw hfin hty rfl rfl hd h1 (k S2 h2)
theorem x_pZ (C : CX p l e R s m args below meth c Q D A K m9 mr own mn cc nL Ts ret fr lo S0 Sf rv) {v : Int32} {o9 : Option Nat} {ci k9 idx : Nat} {Cn : String} {T : u_T} {N : Nat} {ty0 : Nat → FieldType} {g : Sg → Option ρ} (hc : vwCl[ci]? = some (Cn, T, N)) (hT : ∀ w ∈ u_ws Cn T N, w ∈ wR) (hty0 : ∀ k, k < N → parseFieldDescriptor (T k).2.2.1 = some (ty0 k)) (hnm : ∀ a, a < N → ∀ b, b < N → a ≠ b → (T a).2.1 ≠ (T b).2.1) (hk : k9 < N) (hw : Cond.fieldLink own idx (T k9).1 (T k9).2.1 (T k9).2.2.1 ∈ wR) (hfin : (T k9).2.2.2 = false) (hty : parseFieldDescriptor (T k9).2.2.1 = some .boolean) (hd : decode cc pc = .ok (.putfield idx, 3)) (h : (pZ S ci o9 k9 v).bind g = some Rr) (k : ∀ S2 : Sg, g S2 = some Rr → WX p l e R s m args below meth c Q D A K m9 mr nL S0 S2 (pc + 3) lv st) : WX p l e R s m args below meth c Q D A K m9 mr nL S0 S pc lv (.int v :: va_rf o9 :: st) := by
  obtain ⟨S2, h1, h2⟩ := ob h
  obtain ⟨h3, h4⟩ := pg h1
  exact x_pV C hc hT hty0 hnm hk hw hfin hty (by rcases h3 with rfl | rfl <;> decide) (by rcases h3 with rfl | rfl <;> decide) hd h4 (k S2 h2)
theorem x_pR (C : CX p l e R s m args below meth c Q D A K m9 mr own mn cc nL Ts ret fr lo S0 Sf rv) {v : Option Nat} {o9 : Option Nat} {ci k9 idx : Nat} {Cn : String} {T : u_T} {N : Nat} {ty0 : Nat → FieldType} {g : Sg → Option ρ} (hc : vwCl[ci]? = some (Cn, T, N)) (hT : ∀ w ∈ u_ws Cn T N, w ∈ wR) (hty0 : ∀ k, k < N → parseFieldDescriptor (T k).2.2.1 = some (ty0 k)) (hnm : ∀ a, a < N → ∀ b, b < N → a ≠ b → (T a).2.1 ≠ (T b).2.1) (hk : k9 < N) (hw : Cond.fieldLink own idx (T k9).1 (T k9).2.1 (T k9).2.2.1 ∈ wR) (hfin : (T k9).2.2.2 = false) {Cv : String} (hty : parseFieldDescriptor (T k9).2.2.1 = some (.object Cv)) (hd : decode cc pc = .ok (.putfield idx, 3)) (h : (pV S ci o9 k9 (va_rf v)).bind g = some Rr) (k : ∀ S2 : Sg, g S2 = some Rr → WX p l e R s m args below meth c Q D A K m9 mr nL S0 S2 (pc + 3) lv st) : WX p l e R s m args below meth c Q D A K m9 mr nL S0 S pc lv (va_rf v :: va_rf o9 :: st) := by
  obtain ⟨S2, h1, h2⟩ := ob h
  exact x_pV C hc hT hty0 hnm hk hw hfin hty (by cases v <;> rfl) (by cases v <;> rfl) hd h1 (k S2 h2)
theorem x_rI (C : CX p l e R s m args below meth c Q D A K m9 mr own mn cc nL Ts ret fr lo S0 Sf rv) {r : Nat} {j : Int32} {g : Int32 → Option ρ} (hr : r ∈ rwL) (ht : rtag r = 0) (hd : decode cc pc = .ok (.iaload, 1)) (h : (rI S r j).bind g = some Rr) (k : ∀ v : Int32, g v = some Rr → WX p l e R s m args below meth c Q D A K m9 mr nL S0 S (pc + 1) lv (.int v :: st)) : WX p l e R s m args below meth c Q D A K m9 mr nL S0 S pc lv (.int j :: .ref (mr r) :: st) := fun H locs ls hP hl => by
  obtain ⟨v, h1, h2⟩ := ob h
  obtain ⟨h3, h4⟩ := ng (a := none) h1
  cases h4
  exact va_iald C.x C.b C.kk (hP.one (LLr hr) ((hP.FFr hr).trans (show rwc K.1 S r = .inl (K.1 0, rlen r, .inl (Zr S r)) by unfold rwc; rw [ht]; rfl))) 0 0 rfl rfl h3 hd (k _ h2 H locs ls hP hl)
theorem x_rZ (C : CX p l e R s m args below meth c Q D A K m9 mr own mn cc nL Ts ret fr lo S0 Sf rv) {r : Nat} {j : Int32} {g : Int32 → Option ρ} (hr : r ∈ rwL) (ht : rtag r = 2) (hd : decode cc pc = .ok (.baload, 1)) (h : (rI S r j).bind g = some Rr) (k : ∀ v : Int32, g v = some Rr → WX p l e R s m args below meth c Q D A K m9 mr nL S0 S (pc + 1) lv (.int v :: st)) : WX p l e R s m args below meth c Q D A K m9 mr nL S0 S pc lv (.int j :: .ref (mr r) :: st) := fun H locs ls hP hl => by
  obtain ⟨v, h1, h2⟩ := ob h
  obtain ⟨h3, h4⟩ := ng (a := none) h1
  cases h4
  exact va_zald C.x C.b C.kk (hP.one (LLr hr) ((hP.FFr hr).trans (show rwc K.1 S r = .inl (K.1 2, rlen r, .inl (Zr S r)) by unfold rwc; rw [ht]; rfl))) 0 2 rfl rfl h3 hd (k _ h2 H locs ls hP hl)
theorem x_rJ (C : CX p l e R s m args below meth c Q D A K m9 mr own mn cc nL Ts ret fr lo S0 Sf rv) {r : Nat} {j : Int32} {g : Int64 → Option ρ} (hr : r ∈ rwL) (ht : rtag r = 1) (hd : decode cc pc = .ok (.laload, 1)) (h : (rJ S r j).bind g = some Rr) (k : ∀ v : Int64, g v = some Rr → WX p l e R s m args below meth c Q D A K m9 mr nL S0 S (pc + 1) lv (.long v :: st)) : WX p l e R s m args below meth c Q D A K m9 mr nL S0 S pc lv (.int j :: .ref (mr r) :: st) := fun H locs ls hP hl => by
  obtain ⟨v, h1, h2⟩ := ob h
  obtain ⟨h3, h4⟩ := ng (a := none) h1
  cases h4
  exact va_lald C.x C.b C.kk (hP.one (LLr hr) ((hP.FFr hr).trans (show rwc K.1 S r = .inl (K.1 1, rlen r, .inr (.inl (Zl S r))) by unfold rwc; rw [ht]; rfl))) 0 1 rfl rfl h3 hd (k _ h2 H locs ls hP hl)
theorem x_rQ (C : CX p l e R s m args below meth c Q D A K m9 mr own mn cc nL Ts ret fr lo S0 Sf rv) {r : Nat} {j : Int32} {t9 : Nat} {Cv : String} {g : Option Nat → Option ρ} (hr : r ∈ rwL) (ht : rtag r = t9) (ht3 : 3 ≤ t9) (hy : (TY K.1)[t9]? = some (K.1 t9, .object Cv)) (hd : decode cc pc = .ok (.aaload, 1)) (h : (rQ S r j).bind g = some Rr) (k : ∀ v : Option Nat, g v = some Rr → WX p l e R s m args below meth c Q D A K m9 mr nL S0 S (pc + 1) lv (va_rf v :: st)) : WX p l e R s m args below meth c Q D A K m9 mr nL S0 S pc lv (.int j :: .ref (mr r) :: st) := fun H locs ls hP hl => by
  obtain ⟨v, h1, h2⟩ := ob h
  obtain ⟨h3, h4⟩ := ng (a := none) h1
  cases h4
  exact va_aldq C.x C.b C.kk (hP.one (LLr hr) ((hP.FFr hr).trans (show rwc K.1 S r = .inl (K.1 t9, rlen r, .inr (.inr (.inr (.inr (Zq S r))))) by unfold rwc; rw [ht, if_neg (by omega), if_neg (by omega)]))) 0 t9 rfl hy h3 hd (k _ h2 H locs ls hP hl)
/-- a load of a row of rows of ints -/
theorem va_aldA {H : Heap} {locs : List Loc} {cells slots : Nat} {ls : Array Slot} {rest : List Value} {cl : List vw_C} {a : Nat} {tys : List (ClassId × FieldType)} {ws : va_W} (hexec : p.tables.exec = Jvm.exec) (hb : c.code = cc) (hK : va_K D cl tys s) (hP : va_P D cl ws H) (q0 t0 : Nat) {cA : ClassId} {n : Nat} {f : Nat → Option Nat} (ha : ws[q0]? = some (a, .inl (cA, n, .inr (.inr (.inr (.inr f)))))) (ht : tys[t0]? = some (cA, .array .int)) {i : Int32} (hin : vp_in i n) (hdg : decode cc pc = .ok (.aaload, 1))
    (kk : W p l e R s m args below meth c H locs cells slots Q (F0 m (pc + 1) ls (va_rf (f i.toNatClampNeg) :: rest))) : W p l e R s m args below meth c H locs cells slots Q (F0 m pc ls (.int i :: .ref a :: rest)) := by
  have hlt : i.toNatClampNeg < n := Nat.not_le.mp fun q => hin (Or.inr q)
  exact W.aald (v := va_rf (f i.toNatClampNeg)) (ty := .array .int) hexec hb (hP q0 _ ha) ((hK.2 t0 _ ht).1 n (fun j => va_rf (f j))) rfl (fun q => by cases q) (by show ¬ (i < 0 ∨ (arrV _ _ _).slots.size ≤ _); rw [arrV_size]; exact hin) (by show (arrV _ _ _).slots[_]? = _; rw [arrV_read _ _ hlt]) rfl rfl hdg kk
theorem x_rA (C : CX p l e R s m args below meth c Q D A K m9 mr own mn cc nL Ts ret fr lo S0 Sf rv) {r : Nat} {j : Int32} {g : Option Nat → Option ρ} (hr : r ∈ rwL) (ht : rtag r = 8) (hd : decode cc pc = .ok (.aaload, 1)) (h : (rQ S r j).bind g = some Rr) (k : ∀ v : Option Nat, g v = some Rr → WX p l e R s m args below meth c Q D A K m9 mr nL S0 S (pc + 1) lv (va_rf v :: st)) : WX p l e R s m args below meth c Q D A K m9 mr nL S0 S pc lv (.int j :: .ref (mr r) :: st) := fun H locs ls hP hl => by
  obtain ⟨v, h1, h2⟩ := ob h
  obtain ⟨h3, h4⟩ := ng (a := none) h1
  cases h4
  exact va_aldA C.x C.b C.kk (hP.one (LLr hr) ((hP.FFr hr).trans (show rwc K.1 S r = .inl (K.1 8, rlen r, .inr (.inr (.inr (.inr (Zq S r))))) by unfold rwc; rw [ht, if_neg (by omega), if_neg (by omega)]))) 0 8 rfl rfl h3 hd (k _ h2 H locs ls hP hl)
theorem x_wI (C : CX p l e R s m args below meth c Q D A K m9 mr own mn cc nL Ts ret fr lo S0 Sf rv) {r : Nat} {j : Int32} {x : Int32} {g : Sg → Option ρ} (hr : r ∈ rwL) (ht : rtag r = 0) (hd : decode cc pc = .ok (.iastore, 1)) (h : (wRI S r j x).bind g = some Rr) (k : ∀ S2 : Sg, g S2 = some Rr → WX p l e R s m args below meth c Q D A K m9 mr nL S0 S2 (pc + 1) lv st) : WX p l e R s m args below meth c Q D A K m9 mr nL S0 S pc lv (.int x :: .int j :: .ref (mr r) :: st) := fun H locs ls hP hl => by
  obtain ⟨S2, h1, h2⟩ := ob h
  obtain ⟨h3, h4⟩ := ng (a := none) h1
  cases h4
  obtain ⟨hp, hd1⟩ := hP.fo (LLr hr) ((hP.FFr hr).trans (show rwc K.1 S r = .inl (K.1 0, rlen r, .inl (Zr S r)) by unfold rwc; rw [ht]; rfl))
  refine va_iast C.x C.b C.kk hp hd1 hP.2.2.1.rs 0 0 rfl rfl h3 hd (fun H1 locs1 hP1 hD1 hS1 => ?_)
  exact WX.put (S2 := Ur S r (upd (Zr S r) j.toNatClampNeg x)) C hP (c1 := .inl (K.1 0, rlen r, .inl (upd (Zr S r) j.toNatClampNeg x))) (LLr hr) hP1 hD1 hS1 rfl (hP.ur hr (by unfold rwc; rw [ht]; show (Sum.inl (K.1 0, rlen r, .inl (Zr (Ur S r (upd (Zr S r) j.toNatClampNeg x)) r)) : va_E) = _; rw [show Zr (Ur S r (upd (Zr S r) j.toNatClampNeg x)) r = _ from va_up_self _ _ _]) (fun q hq => ⟨va_up_ne _ _ hq, rfl, rfl⟩) rfl rfl rfl) rfl rfl hl (k _ h2)
theorem x_wJ (C : CX p l e R s m args below meth c Q D A K m9 mr own mn cc nL Ts ret fr lo S0 Sf rv) {r : Nat} {j : Int32} {x : Int64} {g : Sg → Option ρ} (hr : r ∈ rwL) (ht : rtag r = 1) (hd : decode cc pc = .ok (.lastore, 1)) (h : (wJ S r j x).bind g = some Rr) (k : ∀ S2 : Sg, g S2 = some Rr → WX p l e R s m args below meth c Q D A K m9 mr nL S0 S2 (pc + 1) lv st) : WX p l e R s m args below meth c Q D A K m9 mr nL S0 S pc lv (.long x :: .int j :: .ref (mr r) :: st) := fun H locs ls hP hl => by
  obtain ⟨S2, h1, h2⟩ := ob h
  obtain ⟨h3, h4⟩ := ng (a := none) h1
  cases h4
  obtain ⟨hp, hd1⟩ := hP.fo (LLr hr) ((hP.FFr hr).trans (show rwc K.1 S r = .inl (K.1 1, rlen r, .inr (.inl (Zl S r))) by unfold rwc; rw [ht]; rfl))
  refine va_last C.x C.b C.kk hp hd1 hP.2.2.1.rs 0 1 rfl rfl h3 hd (fun H1 locs1 hP1 hD1 hS1 => ?_)
  exact WX.put (S2 := Ul S r (vp_updL (Zl S r) j.toNatClampNeg x)) C hP (c1 := .inl (K.1 1, rlen r, .inr (.inl (vp_updL (Zl S r) j.toNatClampNeg x)))) (LLr hr) hP1 hD1 hS1 rfl (hP.ur hr (by unfold rwc; rw [ht]; show (Sum.inl (K.1 1, rlen r, .inr (.inl (Zl (Ul S r (vp_updL (Zl S r) j.toNatClampNeg x)) r))) : va_E) = _; rw [show Zl (Ul S r (vp_updL (Zl S r) j.toNatClampNeg x)) r = _ from va_up_self _ _ _]) (fun q hq => ⟨rfl, va_up_ne _ _ hq, rfl⟩) rfl rfl rfl) rfl rfl hl (k _ h2)
theorem x_wZ (C : CX p l e R s m args below meth c Q D A K m9 mr own mn cc nL Ts ret fr lo S0 Sf rv) {r : Nat} {j : Int32} {x : Int32} {g : Sg → Option ρ} (hr : r ∈ rwL) (ht : rtag r = 2) (hd : decode cc pc = .ok (.bastore, 1)) (h : (wZ S r j x).bind g = some Rr) (k : ∀ S2 : Sg, g S2 = some Rr → WX p l e R s m args below meth c Q D A K m9 mr nL S0 S2 (pc + 1) lv st) : WX p l e R s m args below meth c Q D A K m9 mr nL S0 S pc lv (.int x :: .int j :: .ref (mr r) :: st) := fun H locs ls hP hl => by
  obtain ⟨S2, h1, h2⟩ := ob h
  obtain ⟨h3, h4⟩ := ng (a := none) h1
  obtain ⟨h5, h4⟩ := pg h4
  have h6 : vp_nar .boolean x = x := by rcases h5 with rfl | rfl <;> decide
  cases h4
  obtain ⟨hp, hd1⟩ := hP.fo (LLr hr) ((hP.FFr hr).trans (show rwc K.1 S r = .inl (K.1 2, rlen r, .inl (Zr S r)) by unfold rwc; rw [ht]; rfl))
  refine va_zast C.x C.b C.kk hp hd1 hP.2.2.1.rs 0 2 rfl rfl h3 hd (fun H1 locs1 hP1 hD1 hS1 => ?_)
  rw [h6] at hP1 hD1
  exact WX.put (S2 := Ur S r (upd (Zr S r) j.toNatClampNeg x)) C hP (c1 := .inl (K.1 2, rlen r, .inl (upd (Zr S r) j.toNatClampNeg x))) (LLr hr) hP1 hD1 hS1 rfl (hP.ur hr (by unfold rwc; rw [ht]; show (Sum.inl (K.1 2, rlen r, .inl (Zr (Ur S r (upd (Zr S r) j.toNatClampNeg x)) r)) : va_E) = _; rw [show Zr (Ur S r (upd (Zr S r) j.toNatClampNeg x)) r = _ from va_up_self _ _ _]) (fun q hq => ⟨va_up_ne _ _ hq, rfl, rfl⟩) rfl rfl rfl) rfl rfl hl (k _ h2)
end XH
