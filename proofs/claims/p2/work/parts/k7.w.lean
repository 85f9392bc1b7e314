/-- a sum -/
def psN (w : Nat → Nat) : Nat → Nat
  | 0 => 0
  | k + 1 => psN w k + w k
theorem psN_cg {w w2 : Nat → Nat} : ∀ {n : Nat}, (∀ k : Nat, k < n → w k = w2 k) → psN w n = psN w2 n
  | 0, _ => rfl
  | n + 1, h => by
    show psN w n + w n = psN w2 n + w2 n
    rw [psN_cg (n := n) (fun k hk => h k (by omega)), h n (by omega)]
def psU (w : Nat → Nat) (k v : Nat) : Nat → Nat := fun l => if l = k then v else w l
theorem psU_s {w : Nat → Nat} {k v : Nat} : psU w k v k = v := if_pos rfl
theorem psU_n {w : Nat → Nat} {k v l : Nat} (h : l ≠ k) : psU w k v l = w l := if_neg h
/-- item j's size is told -/
def iSz (R : yR) (S1 : Sg) (j s : Nat) : Prop := ∃ fs : List Value, ZF S1 (R.ws j) = .inr (16, fs) ∧ fs[19]? = some (.int (nI s)) ∧ 1 ≤ s ∧ s ≤ 1000
/-- the size of the type x -/
def tySz (R : yR) (S1 : Sg) (x s : Nat) : Prop := ∃ (kd ix : Int32) (o : Option Nat), isTy S1 x kd ix o ∧ (((kd = 3 ∨ kd = 4) ∧ ∃ j : Nat, j < R.im ∧ ix = nI j ∧ R.ik j ≠ 12 ∧ iSz R S1 j s) ∨ (kd ≠ 3 ∧ kd ≠ 4 ∧ s = 1))
theorem tySz.ps {R : yR} {S1 : Sg} {x s : Nat} (h : tySz R S1 x s) : 1 ≤ s ∧ s ≤ 1000 := by
  obtain ⟨kd, ix, o, _, h | h⟩ := h
  · obtain ⟨_, j, _, _, _, fs, _, _, h1, h2⟩ := h; exact ⟨h1, h2⟩
  · have := h.2.2; omega
/-- sizes that are told stay -/
def SM (R : yR) (S1 S2 : Sg) : Prop := (∀ j s : Nat, j < R.im → iSz R S1 j s → iSz R S2 j s) ∧ ∀ (x : Nat) (kd ix : Int32) (o : Option Nat), isTy S1 x kd ix o → isTy S2 x kd ix o
theorem SM.rf {R : yR} {S1 : Sg} : SM R S1 S1 := ⟨fun _ _ _ h => h, fun _ _ _ _ h => h⟩
theorem SM.tr {R : yR} {S1 S2 S3 : Sg} (h : SM R S1 S2) (g : SM R S2 S3) : SM R S1 S3 := ⟨fun j s hj q => g.1 j s hj (h.1 j s hj q), fun x kd ix o q => g.2 x kd ix o (h.2 x kd ix o q)⟩
theorem tySz.mo {R : yR} {S1 S2 : Sg} {x s : Nat} (h : SM R S1 S2) (q : tySz R S1 x s) : tySz R S2 x s := by
  obtain ⟨kd, ix, o, q1, q2⟩ := q
  refine ⟨kd, ix, o, h.2 _ _ _ _ q1, q2.imp (fun ⟨a, j, b1, b2, b3, b4⟩ => ⟨a, j, b1, b2, b3, h.1 j s b1 b4⟩) id⟩
/-- what an item's size says: its fields, or the parts of each of its variants, have room in it -/
def EqS (R : yR) (S S1 : Sg) (a s : Nat) : Prop := ∃ (fs : List Value) (mn : Nat), ZF S (R.ws a) = .inr (16, fs) ∧ fs[3]? = some (.int (nI mn)) ∧ 1 ≤ mn ∧ mn ≤ 12 ∧
  ((R.ik a = 10 ∧ ∃ (ta : Nat) (f : Nat → Option Nat) (w : Nat → Nat), fs[10]? = some (.ref ta) ∧ ZF S ta = .inl (R.K.1 4, 13, .inr (.inr (.inr (.inr f)))) ∧ (∀ k : Nat, k < mn → ∃ x : Nat, f k = some x ∧ tySz R S1 x (w k)) ∧ (psN w mn ≤ s ∨ s = 1000)) ∨
   (R.ik a = 11 ∧ ∃ (vr : Nat) (fv : Nat → Option Nat), fs[11]? = some (.ref vr) ∧ ZF S vr = .inl (R.K.1 13, 13, .inr (.inr (.inr (.inr fv)))) ∧ ∀ k : Nat, k < mn → ∃ (pa mk : Nat) (f : Nat → Option Nat) (w : Nat → Nat), fv k = some pa ∧ paY R S pa mk f ∧ (∀ l : Nat, l < mk → ∃ x : Nat, f l = some x ∧ tySz R S1 x (w l)) ∧ (1 + psN w mk ≤ s ∨ s = 1000)))
theorem EqS.mo {R : yR} {S S1 S2 : Sg} {a s : Nat} (h : SM R S1 S2) (q : EqS R S S1 a s) : EqS R S S2 a s := by
  obtain ⟨fs, mn, q1, q2, q3, q4, q5⟩ := q
  refine ⟨fs, mn, q1, q2, q3, q4, ?_⟩
  rcases q5 with ⟨k1, ta, f, w, k2, k3, k4, k5⟩ | ⟨k1, vr, fv, k2, k3, k4⟩
  · exact Or.inl ⟨k1, ta, f, w, k2, k3, fun k hk => by obtain ⟨x, x1, x2⟩ := k4 k hk; exact ⟨x, x1, x2.mo h⟩, k5⟩
  · refine Or.inr ⟨k1, vr, fv, k2, k3, fun k hk => ?_⟩
    obtain ⟨pa, mk, f, w, j1, j2, j3, j4⟩ := k4 k hk
    exact ⟨pa, mk, f, w, j1, j2, fun l hl => by obtain ⟨x, x1, x2⟩ := j3 l hl; exact ⟨x, x1, x2.mo h⟩, j4⟩
/-- rows and variants' parts are as they were -/
theorem WI.ro {R : yR} {S S1 : Sg} (h : WI R S S1) {a n : Nat} {k : ClassId} {f : vRw} (e : ZF S1 a = .inl (k, n, f)) : ZF S a = .inl (k, n, f) := by
  rcases h.1 a with w | ⟨_, gs, g1, _, _, _, w, _⟩
  · rw [← w]; exact e
  · rw [e] at w; cases w
theorem WI.pa {R : yR} {S S1 : Sg} (h : WI R S S1) {a : Nat} {ys : List Value} (e : ZF S1 a = .inr (17, ys)) : ZF S a = .inr (17, ys) := by
  rcases h.1 a with w | ⟨_, gs, g1, _, _, _, w, _⟩
  · rw [← w]; exact e
  · rw [e] at w; cases w
theorem WI.io {R : yR} {S S1 : Sg} (h : WI R S S1) {i : Nat} {fs : List Value} (e : ZF S1 (R.ws i) = .inr (16, fs)) : ∃ f0 : List Value, ZF S (R.ws i) = .inr (16, f0) ∧ ∀ l : Nat, l < 19 → fs[l]? = f0[l]? := by
  rcases h.1 (R.ws i) with w | ⟨j, g0, g1, _, _, w1, w2, w3⟩
  · exact ⟨fs, w.symm.trans e, fun _ _ => rfl⟩
  · have ee : g1 = fs := (Prod.mk.inj (Sum.inr.inj (w2.symm.trans e))).2
    subst ee
    exact ⟨g0, w1, w3⟩
theorem vTyn.wi {R : yR} {S S1 : Sg} (h : WI R S S1) : ∀ {n x : Nat}, vTyn S1 n x → vTyn S n x
  | 0, _, q => q
  | n + 1, x, q => by
    obtain ⟨kd, ix, o, q1, q2⟩ := q
    refine ⟨kd, ix, o, h.ty q1, q2.imp id (fun ⟨a, u, b1, b2⟩ => ⟨a, u, b1, vTyn.wi h b2⟩)⟩
theorem vTy.wi {R : yR} {S S1 : Sg} (h : WI R S S1) {x : Nat} (q : vTy S1 x) : vTy S x := by
  obtain ⟨n, q⟩ := q; exact ⟨n, vTyn.wi h q⟩
theorem paY.wi {R : yR} {S S1 : Sg} (h : WI R S S1) {pa mk : Nat} {f : Nat → Option Nat} (q : paY R S1 pa mk f) : paY R S pa mk f := by
  refine ⟨q.1, ?_⟩
  rcases q.2 with ⟨q1, q2⟩ | ⟨wa, ta, q1, q2, q3⟩
  · exact Or.inl ⟨h.pa q1, q2⟩
  · exact Or.inr ⟨wa, ta, h.pa q1, q2, q3.1, h.ro q3.2.1, fun k hk => by obtain ⟨x, x1, x2⟩ := q3.2.2 k hk; exact ⟨x, x1, vTy.wi h x2⟩⟩
/-- the items' sizes as far as they are told, the table of what lies in what -/
def SI (R : yR) (Pz : Int32 → Prop) (c nv : Nat) (S : Sg) (g : Nat → Int32) (S1 : Sg) : Prop := EI R Pz c nv S g S1 ∧ ∀ a : Nat, a < R.im → ∃ (fs : List Value) (s : Nat) (v : Int32), ZF S1 (R.ws a) = .inr (16, fs) ∧ fs[19]? = some (.int (nI s)) ∧ s ≤ 1000 ∧ fs[21]? = some (.int v) ∧ (v = 0 ∨ v = 1) ∧ (v = 0 → noC R.im g a) ∧ (s ≠ 0 → EqS R S S1 a s)
/-- behind the size of an item that has n below it: those with more are as they were -/
def SFr (R : yR) (g : Nat → Int32) (n : Nat) (S1 S2 : Sg) : Prop := ∀ a : Nat, a < R.im → n ≤ hN g a R.im → ZF S2 (R.ws a) = ZF S1 (R.ws a)
theorem SFr.rf {R : yR} {g : Nat → Int32} {n : Nat} {S1 : Sg} : SFr R g n S1 S1 := fun _ _ _ => rfl
theorem SFr.tr {R : yR} {g : Nat → Int32} {n : Nat} {S1 S2 S3 : Sg} (h : SFr R g n S1 S2) (q : SFr R g n S2 S3) : SFr R g n S1 S3 := fun a ha hn => (q a ha hn).trans (h a ha hn)
theorem SFr.mo {R : yR} {g : Nat → Int32} {n m : Nat} {S1 S2 : Sg} (h : SFr R g n S1 S2) (q : n ≤ m) : SFr R g m S1 S2 := fun a ha hn => h a ha (by omega)
section SZO
variable {R : yR} {Pz : Int32 → Prop} {c nv : Nat} {S : Sg} {g : Nat → Int32}
theorem RDI.ne (hD : RDI R) {i j : Nat} (hi : i < R.im) (hj : j < R.im) (h : i ≠ j) : R.ws i ≠ R.ws j := by
  rcases Nat.lt_or_ge i j with z | z
  · have := hD.lt z hj; omega
  · have := hD.lt (show j < i by omega) hi; omega
theorem EF.si {S1 : Sg} (h : EI R Pz c nv S g S1) (f : EF R g R.im S1) : SI R Pz c nv S g S1 := ⟨h, fun a ha => by
  obtain ⟨fs, v, h1, h2, h3, h4, h5⟩ := f a ha
  exact ⟨fs, 0, v, h1, h2, by omega, h3, h4, h5, fun z => absurd rfl z⟩⟩
/-- what the size of item i gives -/
def SZQ (R : yR) (Pz : Int32 → Prop) (c nv : Nat) (S : Sg) (g : Nat → Int32) (i : Nat) (S1 S2 : Sg) (r : Int32) : Prop := SI R Pz c nv S g S2 ∧ SM R S1 S2 ∧ SFr R g (hN g i R.im + 1) S1 S2 ∧ ∃ s : Nat, r = nI s ∧ iSz R S2 i s
/-- an item's size is told -/
theorem szi126 (hD : RDI R) {V : Sg → Option Nat → Option (Sg × Int32)} {S1 : Sg} {i s : Nat} (h : SI R Pz c nv S g S1) (hi : i < R.im) (hs : s ≤ 1000) (hs1 : 1 ≤ s) (hq : EqS R S S1 i s) (h0 : ∃ fs : List Value, ZF S1 (R.ws i) = .inr (16, fs) ∧ fs[19]? = some (.int 0)) : Rt (f_sizeOfItem_126 R.K V S1 (some (R.ws i)) (nI s) (some (R.ws i))) (SZQ R Pz c nv S g i S1) := by
  obtain ⟨gs, g1, g2, g3, g4⟩ := h.1.w hD hi (k := 19) (Or.inl rfl) (.int (nI s)) (Or.inl (by decide))
  obtain ⟨f0, z1, z2⟩ := h0
  have e0 : f0 = gs := (Prod.mk.inj (Sum.inr.inj (z1.symm.trans g1))).2
  subst e0
  have hsm : SM R S1 (UF S1 (R.ws i) (.inr (16, f0.set 19 (.int (nI s))))) := ⟨fun j t hj q => by
    obtain ⟨fs, q1, q2, q3, q4⟩ := q
    by_cases e : j = i
    · subst e
      have e1 : f0 = fs := (Prod.mk.inj (Sum.inr.inj (g1.symm.trans q1))).2
      subst e1
      have := nI_ij (b := 0) (Value.int.inj (Option.some.inj (q2.symm.trans z2))) (by omega) (by omega)
      omega
    · exact ⟨fs, (ZF_n (hD.ne hj hi e)).trans q1, q2, q3, q4⟩, fun x kd ix o q => g4.2.2.2.1.ty2 (h.1.2.2.2.1.ty q)⟩
  have hits : iSz R (UF S1 (R.ws i) (.inr (16, f0.set 19 (.int (nI s))))) i s := ⟨_, ZF_s, by rw [List.getElem?_set_self (by rw [g2]; decide)], hs1, hs⟩
  unfold f_sizeOfItem_126
  refine Rt.bd g3 (Rt.bd (oI_mk (fs := f0.set 19 (.int (nI s))) (v := nI s) (g4.1.L (hD.ob h.1.1 hi).1) ZF_s (by rw [List.getElem?_set_self (by rw [g2]; decide)])) (Rt.rt ⟨⟨g4, fun a ha => ?_⟩, hsm, fun a ha hn => ?_, s, rfl, hits⟩))
  · obtain ⟨fs, s9, v, h1, h2, h3, h4, h5, h6, h7⟩ := h.2 a ha
    by_cases e : a = i
    · subst e
      have ee : f0 = fs := (Prod.mk.inj (Sum.inr.inj (g1.symm.trans h1))).2
      subst ee
      exact ⟨_, s, v, ZF_s, by rw [List.getElem?_set_self (by rw [g2]; decide)], hs, by rw [List.getElem?_set_ne (by decide)]; exact h4, h5, h6, fun _ => hq.mo hsm⟩
    · exact ⟨fs, s9, v, (ZF_n (hD.ne ha hi e)).trans h1, h2, h3, h4, h5, h6, fun z => (h7 z).mo hsm⟩
  · exact ZF_n (fun e => by
      by_cases e2 : a = i
      · subst e2; omega
      · exact hD.ne ha hi e2 e)
/-- sizeOf, of what lies in item i -/
theorem szo_ (hD : RDI R) (hc : c ≤ 1990) (hW : wC R.im R.im g) (hE : ∀ a b : Nat, a < R.im → b < R.im → eD R S g a b) {V : Sg → Option Nat → Option (Sg × Int32)} {i x : Nat} {S1 : Sg} (hV : ∀ (j : Nat) (S1 : Sg), j < R.im → R.ik j ≠ 12 → noC R.im g j → hN g j R.im < hN g i R.im → SI R Pz c nv S g S1 → Rt (V S1 (some (R.ws j))) (SZQ R Pz c nv S g j S1)) (h : SI R Pz c nv S g S1) (hi : i < R.im) (hik : R.ik i ≠ 12) (hno : noC R.im g i) (hx : fdO R S1 i x) {kd ix : Int32} {o : Option Nat} (hty : isTy S1 x kd ix o) : Rt (f_sizeOf R.K V S1 (some x)) (fun S2 r => SI R Pz c nv S g S2 ∧ SM R S1 S2 ∧ SFr R g (hN g i R.im) S1 S2 ∧ ∃ s : Nat, r = nI s ∧ tySz R S2 x s) := by
  have hok := (h.1.1.at hc hty).1
  have hty2 := hty
  obtain ⟨t, h1, h2, h3, h4⟩ := hty2
  have h16 : (kd = 3 ∨ kd = 4) → Rt (f_sizeOf_16 R.K V S1 (some x)) (fun S2 r => SI R Pz c nv S g S2 ∧ SM R S1 S2 ∧ SFr R g (hN g i R.im) S1 S2 ∧ ∃ s : Nat, r = nI s ∧ tySz R S2 x s) := fun hk => by
    obtain ⟨j, hj, ej, hjk⟩ : ∃ j : Nat, j < R.im ∧ ix = nI j ∧ R.ik j ≠ 12 := by
      rcases hok with ⟨w, _⟩ | ⟨_, ⟨j, w1, w2, w3⟩, _⟩ | ⟨_, ⟨j, w1, w2, w3⟩, _⟩ | ⟨w, _⟩
      · have w : kd = 0 ∨ kd = 1 ∨ kd = 2 ∨ kd = 8 := w
        rcases hk with e | e <;> rw [e] at w <;> exact absurd w (by decide)
      · exact ⟨j, w1, w2, by rw [w3]; decide⟩
      · exact ⟨j, w1, w2, by rw [w3]; decide⟩
      · have w : kd = 5 ∨ kd = 6 ∨ kd = 7 := w
        rcases hk with e | e <;> rw [e] at w <;> exact absurd w (by decide)
    have hb : hB g i j := fun e => by
      rcases (hE i j hi hj).2 e with w | w | w
      · exact hik w
      · exact hjk w
      · exact w x (h.1.2.2.2.1.fd hx) kd o (by rw [← ej]; exact h.1.2.2.2.1.ty hty) hk
    obtain ⟨d1, d2⟩ := noC_dn hW hi hj hno hb
    unfold f_sizeOf_16 f_sizeOf_33
    refine Rt.bd (oI_mk h3 h4 (v := ix) rfl) ?_
    rw [ej] at hty ⊢
    refine Rt.bd (hD.it h.1.1 hj) (Rt.bn (hV j S1 hj hjk d1 d2 h) (fun S2 r q => Rt.rt ?_))
    obtain ⟨q1, q2, q3, s, q4, q5⟩ := q
    exact ⟨q1, q2, q3.mo d2, s, q4, kd, _, o, q2.2 _ _ _ _ hty, Or.inl ⟨hk, j, hj, rfl, hjk, q5⟩⟩
  unfold f_sizeOf f_sizeOf_33
  refine Rt.bd (oI_mk h3 h4 (v := kd) rfl) (Rt.it (fun w => h16 (Or.inl w)) (fun w => ?_))
  exact Rt.bd (oI_mk h3 h4 (v := kd) rfl) (Rt.it (fun w => h16 (Or.inr w)) (fun w2 => Rt.rt ⟨h, SM.rf, SFr.rf, 1, rfl, kd, ix, o, hty, Or.inr ⟨w, w2, rfl⟩⟩))
end SZO
