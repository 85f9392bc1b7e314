/-- types of a function's variables, by numbers -/
def vtS (S : Sg) (Λ : List Nat) (k : Nat) : Nat := match Λ[k]? with
  | some v => abU S (rN (obF S v) 2)
  | none => 0
def adS (Λ : List Nat) (k : Nat) : Nat := match Λ[k]? with
  | some v => v
  | none => 0
/-- what a function's code is told over, from the store -/
def eVf (R : yR) (S : Sg) (Λ : List Nat) (gv : Nat) : eV := (yT R S, vtS S Λ, hdS R S, abT S gv, lfS R S, rlS R S, adS Λ)
/-- what is known behind the typing -/
def ENb (R : yR) (S0 : Sg) : Prop := RIn R S0 ∧ YK R S0 ∧ KEq R S0 ∧ ITA R S0 ∧ (Zq S0 11 = Zq R.S 11 ∧ Zr S0 5 = Zr R.S 5) ∧ R.T ≤ 3001 ∧ MN1 R S0 ∧ SNH R S0
/-- loans of what came from outside: parameters below j -/
def OUl (R : yR) (S0 S : Sg) (E : eV) (i j L : Nat) : Prop := (∀ l : Nat, l < L → ∃ q : Nat, q < j ∧ Zq S 43 l = none ∧ Zr S 44 l = 1 ∧ Zr S 45 l = nI q ∧ Zr S 46 l = lfS R S0 i q ∧ isRf (E.vt q)) ∧ ∀ q : Nat, q < j → isRf (E.vt q) → ∃ l : Nat, l < L ∧ Zr S 45 l = nI q
/-- a function's points: no way leads out -/
def tsgR (R : yR) (S0 S : Sg) (E : eV) (L a b : Nat) (x : List tE) : Prop := ∃ (st : Nat → List tE) (W : Nat → Prop), wkS x (st a) ∧ W a ∧ a < b ∧ ∀ k : Nat, a ≤ k → k < b → ∃ i : iR, rz R S0 S k i ∧ (∀ l : Nat, i.ln = some l → l < L) ∧ (∀ j ∈ i.sc, a ≤ j ∧ j < b ∧ (W k → W j) ∧ bkO S k j) ∧ wl (st k) ≤ 177 ∧ tPt E k (W k) i (st k) (fun j s => a ≤ j ∧ j < b ∧ wkS s (st j))
/-- a function was laid: points Ps to Pe, L0 loans from outside, L in all -/
def FnL (R : yR) (S0 S : Sg) (Λ : List Nat) (gv i mn Ps Pe L0 L : Nat) : Prop := FEn R S0 (eVf R S0 Λ gv) Λ gv ∧ tsgR R S0 S (eVf R S0 Λ gv) L Ps Pe (mkV (ksV 0 mn)) ∧ OUl R S0 S (eVf R S0 Λ gv) i mn L0 ∧ L0 ≤ L ∧ L ≤ 160 ∧ mn ≤ 12 ∧ mn ≤ Λ.length ∧ (hdS R S0 i).1 = mn ∧ (∀ q : Nat, q < mn → (hdS R S0 i).2.1 q = (eVf R S0 Λ gv).vt q ∧ (eVf R S0 Λ gv).vt q ≠ 0) ∧ (hdS R S0 i).2.2 = abT S0 gv ∧ Ps < Pe ∧ ∃ fs : List Value, ZF S (R.ws i) = .inr (16, fs) ∧ fs[4]? = some (.int (nI Pe)) ∧ fs[5]? = some (.int (nI Ps)) ∧ Pe < 24000
section LY46
variable {R : yR} {S0 Sb Sx S S1 S2 S3 : Sg} {P P1 P2 P3 Pe h h0 h1 h2 hc L L1 L2 Le Lb z n z2 n2 : Nat} {Γ Γ0 Γ1 Γ2 Λ : List Nat} {E : eV} {s s1 s2 yD : List tE} {gv : Nat} {js ks us : List Nat} {bw : Nat → Nat} {cl cl2 : Prop} {p q b c v w i : Nat} {x y : List tE}
theorem OUl.st {j : Nat} (q : OUl R S0 S E i j L) (hz : QX L S S2) : OUl R S0 S2 E i j L := by
  refine ⟨fun l hl => ?_, fun q1 hq hr => ?_⟩
  · obtain ⟨q1, a1, a2, a3, a4, a5, a6⟩ := q.1 l hl
    obtain ⟨z1, z2⟩ := hz l hl
    exact ⟨q1, a1, z1.trans a2, (z2 44 (by decide) (by decide)).trans a3, (z2 45 (by decide) (by decide)).trans a4, (z2 46 (by decide) (by decide)).trans a5, a6⟩
  · obtain ⟨l, l1, l2⟩ := q.2 q1 hq hr
    exact ⟨l, l1, ((hz l l1).2 45 (by decide) (by decide)).trans l2⟩
/-- an item's cell is written -/
theorem LC.ui {a : Nat} {fs f2 : List Value} (c : LC R S0 S P h Γ L) (hF : ZF S a = .inr (16, fs)) (hl : f2.length = fs.length) (hf : ∀ l : Nat, l ≠ 4 → l ≠ 5 → f2[l]? = fs[l]?) : LC R S0 (UF S a (.inr (16, f2))) P h Γ L ∧ LX S (UF S a (.inr (16, f2))) ∧ ZF (UF S a (.inr (16, f2))) a = .inr (16, f2) := by
  have hc : cLy (ZF S a) (.inr (16, f2)) := Or.inr ⟨16, fs, f2, hF, rfl, hl, Or.inr ⟨rfl, hf⟩⟩
  have hx : LX S (UF S a (.inr (16, f2))) := ⟨fun b hb => ⟨hb, by
    by_cases e : b = a
    · subst e; rw [show ZF (UF S b (.inr (16, f2))) b = .inr (16, f2) from updE_s]; exact hc
    · rw [show ZF (UF S a (.inr (16, f2))) b = ZF S b from updE_n e]; exact Or.inl rfl⟩, fun _ _ _ _ _ => rfl, fun _ _ => rfl, fun _ _ => rfl, fun _ _ => rfl, rfl, Nat.le_refl _, Nat.le_refl _⟩
  refine ⟨⟨c.1.tr hx, c.2.1, c.2.2.1, c.2.2.2.1, c.2.2.2.2.1, c.2.2.2.2.2.1.st hx rfl (c.2.2.2.2.2.1.2.st hx (fun _ _ _ => rfl) (fun _ _ _ => Or.inl rfl) rfl), c.2.2.2.2.2.2.1.st hx (fun b hb gs e => ZF_n (fun w => ?_)), c.2.2.2.2.2.2.2⟩, hx, ZF_s⟩
  rw [w, hF] at e; cases e
/-- RETURN at the end -/
theorem tsg.rt {a b pp : Nat} {xx : pRc} (h : tsg R S0 S E L a b x y cl) (hat : AT S b xx) (hx : pl0 xx 26 pp) (hpp : pp < R.T) (hw : wl y ≤ 177) (hc : cl ∨ ((y = [] ∧ E.gv = 0) ∨ (y = [eU E.gv] ∧ E.gv ≠ 0))) : tsgR R S0 S E L a (b + 1) x := by
  obtain ⟨st, W, h1, h2, h3, h4, h5, h6⟩ := h
  obtain ⟨x1, x2, x3, x4, x5, x6, x7, x8, x9⟩ := hx
  have hz : rz R S0 S b ((26, 0, none, (none, none), ([], []), [], (0, 0, 0), []) : iR) := ⟨(hat.1 27 (by decide) (by decide) (by decide)).trans x1, by show (26 : Nat) < 28; decide, (hat.1 33 (by decide) (by decide) (by decide)).trans x4, by show (0 : Nat) < 8; decide, (hat.1 34 (by decide) (by decide) (by decide)).trans x5, (hat.1 35 (by decide) (by decide) (by decide)).trans x6, Or.inl ⟨(hat.2.2 37 (by decide) (by decide)).trans x8, rfl⟩, Or.inl ⟨(hat.2.2 36 (by decide) (by decide)).trans x7, rfl⟩, ⟨pp, (hat.1 32 (by decide) (by decide) (by decide)).trans x3, hpp⟩, Or.inl ⟨(hat.2.2 38 (by decide) (by decide)).trans x9, rfl⟩, (fun l e => by cases e), Or.inl ⟨rfl, rfl⟩, fun w => absurd w (by decide), fun w => absurd w (by decide), fun w => absurd w (by decide), fun w => absurd w (by decide), fun w => absurd w (by decide), fun w => absurd w (by decide)⟩
  refine ⟨st, W, h1, h3, by omega, fun k hk hb => ?_⟩
  by_cases e : k < b
  · obtain ⟨i, q1, q2, q3, q4, q5⟩ := h6 k hk e
    refine ⟨i, q1, q2, fun j hj2 => ?_, q4, q5.im id (fun j t ⟨j1, j2, j3⟩ => ⟨j1, by omega, j3⟩)⟩
    obtain ⟨j1, j2, j3⟩ := q3 j hj2
    exact ⟨j1, by omega, j3⟩
  · obtain rfl : k = b := by omega
    refine ⟨_, hz, (fun l e => by cases e), fun j hj2 => (by cases hj2), by rw [h2]; exact hw, tP_26 rfl ⟨iD0_0, fun w => ?_⟩⟩
    rw [h2]
    exact hc.resolve_left (fun q => h4 q w)
/-- newLoan of what came from outside -/
theorem nlo_ {g : Sg → Int32 → Option (Sg × Unit)} {Q : Sg → Unit → Prop} (hl : L < 160) (c : LC R S0 S P h Γ L) (k : ∀ S1 : Sg, LC R S0 S1 P h Γ (L + 1) → (∀ P' : Nat, LZ P' L S S1) → SEq S S1 → Zq S1 43 L = none → Zr S1 44 L = 1 → Zr S1 27 = Zr S 27 → (∀ k r : Nat, 36 ≤ r → r ≤ 42 → Zq S1 r k = Zq S r k) → Rt (g S1 (nI L)) Q) : Rt (bnd (f_newLoan R.K S none 1) g) Q := by
  have h47 : Zi S 47 = nI L := c.2.2.2.2.1
  refine Rt.bn (Q := fun S1 r => r = nI L ∧ LC R S0 S1 P h Γ (L + 1) ∧ (∀ P' : Nat, LZ P' L S S1) ∧ SEq S S1 ∧ Zq S1 43 L = none ∧ Zr S1 44 L = 1 ∧ Zr S1 27 = Zr S 27 ∧ (∀ k r : Nat, 36 ≤ r → r ≤ 42 → Zq S1 r k = Zq S r k)) ?_ (fun S1 r q => by rw [q.1]; exact k S1 q.2.1 q.2.2.1 q.2.2.2.1 q.2.2.2.2.1 q.2.2.2.2.2.1 q.2.2.2.2.2.2.1 q.2.2.2.2.2.2.2)
  unfold f_newLoan
  rw [h47]
  refine Rt.bd (wQ_n (show L < rlen 43 from hl) (by decide) rfl) ?_
  have c1 : LC R S0 (Uq S 43 (va_up (Zq S 43) L none)) P h Γ L := c.uq (Or.inr ⟨rfl, Nat.le_refl _⟩)
  have z1 : ∀ P' : Nat, LZ P' L S (Uq S 43 (va_up (Zq S 43) L none)) := fun P' => LZ.lq (Nat.le_refl _)
  have e1 : SEq S (Uq S 43 (va_up (Zq S 43) L none)) := ⟨(z1 0).1, rfl, rfl, rfl, rfl, Zq_un (by decide)⟩
  have q1 : Zq (Uq S 43 (va_up (Zq S 43) L none)) 43 L = none := (congrFun Zq_us L).trans (va_up_self _ _ _)
  have r1 : Zr (Uq S 43 (va_up (Zq S 43) L none)) = Zr S := rfl
  have s1 : ∀ k r : Nat, 36 ≤ r → r ≤ 42 → Zq (Uq S 43 (va_up (Zq S 43) L none)) r k = Zq S r k := fun k r h1 h2 => congrFun (Zq_un (by omega)) k
  generalize Uq S 43 (va_up (Zq S 43) L none) = A at c1 z1 e1 q1 r1 s1
  rw [show Zi A 47 = nI L from c1.2.2.2.2.1]
  refine Rt.bd (wZ_n (show L < rlen 44 from hl) (by decide) (Or.inr rfl)) ?_
  have c2 : LC R S0 (Ur A 44 (upd (Zr A 44) L 1)) P h Γ L := c1.ur (Or.inr ⟨by decide, fun e => absurd e (by decide)⟩)
  have z2 : ∀ P' : Nat, LZ P' L S (Ur A 44 (upd (Zr A 44) L 1)) := fun P' => (z1 P').tr (LZ.lr (by decide) (Nat.le_refl _)) (Nat.le_refl _) (Nat.le_refl _)
  have e2 : SEq S (Ur A 44 (upd (Zr A 44) L 1)) := e1.tr ⟨(LZ.lr (P := 0) (L := 0) (by decide) (Nat.zero_le _)).1, rfl, rfl, rfl, rfl, rfl⟩
  have q2 : Zq (Ur A 44 (upd (Zr A 44) L 1)) 43 L = none := q1
  have t2 : Zr (Ur A 44 (upd (Zr A 44) L 1)) 44 L = 1 := (congrFun Zr_us L).trans upd_s
  have r2 : Zr (Ur A 44 (upd (Zr A 44) L 1)) 27 = Zr S 27 := (Zr_un (by decide)).trans (by rw [r1])
  have s2 : ∀ k r : Nat, 36 ≤ r → r ≤ 42 → Zq (Ur A 44 (upd (Zr A 44) L 1)) r k = Zq S r k := s1
  generalize Ur A 44 (upd (Zr A 44) L 1) = B at c2 z2 e2 q2 t2 r2 s2
  rw [show Zi B 47 = nI L from c2.2.2.2.2.1]
  refine Rt.bd (wRI_n (show L < rlen 45 from hl) (by decide)) ?_
  have c3 : LC R S0 (Ur B 45 (upd (Zr B 45) L (-1))) P h Γ L := c2.ur (Or.inr ⟨by decide, fun _ => Or.inl (Nat.le_refl _)⟩)
  have z3 : ∀ P' : Nat, LZ P' L S (Ur B 45 (upd (Zr B 45) L (-1))) := fun P' => (z2 P').tr (LZ.lr (by decide) (Nat.le_refl _)) (Nat.le_refl _) (Nat.le_refl _)
  have e3 : SEq S (Ur B 45 (upd (Zr B 45) L (-1))) := e2.tr ⟨(LZ.lr (P := 0) (L := 0) (by decide) (Nat.zero_le _)).1, rfl, rfl, rfl, rfl, rfl⟩
  have q3 : Zq (Ur B 45 (upd (Zr B 45) L (-1))) 43 L = none := q2
  have t3 : Zr (Ur B 45 (upd (Zr B 45) L (-1))) 44 L = 1 := (congrFun (Zr_un (by decide)) L).trans t2
  have r3 : Zr (Ur B 45 (upd (Zr B 45) L (-1))) 27 = Zr S 27 := (Zr_un (by decide)).trans r2
  have s3 : ∀ k r : Nat, 36 ≤ r → r ≤ 42 → Zq (Ur B 45 (upd (Zr B 45) L (-1))) r k = Zq S r k := s2
  have h45 : Zr (Ur B 45 (upd (Zr B 45) L (-1))) 45 L = -1 := (congrFun Zr_us L).trans upd_s
  generalize Ur B 45 (upd (Zr B 45) L (-1)) = C at c3 z3 e3 q3 t3 r3 s3 h45
  have hC : Zi C 47 = nI L := c3.2.2.2.2.1
  have eC : Zi C 47 + 1 = nI (L + 1) := by rw [hC]; exact nI_1 L
  rw [eC]
  refine Rt.bd (v := Ui C 47 (nI (L + 1))) rfl (Rt.rt ⟨?_, c3.l1 hl (Or.inl q3) h45, fun P' => (z3 P').tr (LZ.ui (by decide)) (Nat.le_refl _) (Nat.le_refl _), e3.tr ⟨(LZ.ui (P := 0) (L := 0) (by decide)).1, rfl, rfl, rfl, rfl, rfl⟩, q3, t3, r3, s3⟩)
  rw [show Zi (Ui C 47 (nI (L + 1))) 47 = nI (L + 1) from Zi_s, nI_sb1 (by omega)]; rfl
end LY46
