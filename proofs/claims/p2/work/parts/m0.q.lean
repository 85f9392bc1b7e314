/-- the heads of functions, from the store -/
def hdS (R : yR) (S : Sg) (i : Nat) : Nat × (Nat → Nat) × Nat := (fN (obF S (R.ws i)) 3, fun k => (match rN (obF S (R.ws i)) 10 with
  | some ta => abU S (roQ S ta k)
  | none => 0), abU S (rN (obF S (R.ws i)) 15))
def iN (fs : List Value) (k : Nat) : Int32 := match fs[k]? with
  | some (.int v) => v
  | _ => 0
def roI (S : Sg) (a k : Nat) : Int32 := match ZF S a with
  | .inl (_, _, .inl f) => f k
  | _ => 0
/-- .. their lives -/
def lfS (R : yR) (S : Sg) (i q : Nat) : Int32 := match rN (obF S (R.ws i)) 13 with
  | some a => roI S a q
  | none => 0
def rlS (R : yR) (S : Sg) (i : Nat) : Int32 := iN (obF S (R.ws i)) 7
/-- structs and enums have one field or variant at least -/
def MN1 (R : yR) (S : Sg) : Prop := ∀ (i mn : Nat) (fs : List Value), i < R.im → R.ik i ≠ 12 → ZF S (R.ws i) = .inr (16, fs) → fs[3]? = some (.int (nI mn)) → mn ≤ 12 → 1 ≤ mn
/-- the texts of tokens -/
def SNH (R : yR) (S : Sg) : Prop := R.T ≤ 3001 ∧ (Zr S 0 = Zr R.S 0 ∧ Zr S 6 = Zr R.S 6 ∧ Zr S 7 = Zr R.S 7) ∧ ∀ t : Nat, t < R.T → ∃ a b : Nat, Zr S 6 t = nI a ∧ Zr S 7 t = nI b ∧ a ≤ b ∧ b ≤ 3000
/-- what is known where a function is laid -/
def EN (R : yR) (S0 : Sg) (E : eV) : Prop := RIn R S0 ∧ YK R S0 ∧ KEq R S0 ∧ ITA R S0 ∧ E.y = yT R S0 ∧ E.hd = hdS R S0 ∧ E.lf = lfS R S0 ∧ E.rl = rlS R S0 ∧ (Zq S0 11 = Zq R.S 11 ∧ Zr S0 5 = Zr R.S 5) ∧ R.T ≤ 3001 ∧ MN1 R S0 ∧ SNH R S0
/-- what an exp leaves on the stack -/
def resE (S0 : Sg) (x : Nat) : List tE := if abT S0 x = 0 then [] else [eT (abT S0 x)]
section LY16
variable {R : yR} {S0 Sb S S1 S2 : Sg} {P P2 h h0 L Lb z n : Nat} {Γ Γ0 Γ2 : List Nat} {x : pRc} {E : eV} {s s2 : List tE} {α : Type}
theorem fnY.hd {i mn gv : Nat} {tx : Nat → Nat} (h : fnY R S i mn tx gv) : i < R.im ∧ mn ≤ 12 ∧ (hdS R S i).1 = mn ∧ (∀ k : Nat, k < mn → (hdS R S i).2.1 k = abT S (tx k) ∧ rTy S (tx k)) ∧ (hdS R S i).2.2 = abT S gv := by
  obtain ⟨fs, ta, f, h1, h2, h3, h4, h5, h6, h7, h8, h9, h10⟩ := h
  refine ⟨h1, h6, ?_, fun k hk => ⟨?_, ?_⟩, ?_⟩
  · show fN (obF S (R.ws i)) 3 = mn
    rw [obF_o h4, fN_i h5 (by omega)]
  · show (match rN (obF S (R.ws i)) 10 with
      | some ta => abU S (roQ S ta k)
      | none => 0) = _
    rw [obF_o h4, rN_r h7]
    show abU S (roQ S ta k) = _
    rw [roQ_o h8.2.1, h9 k hk]; rfl
  · obtain ⟨y, y1, y2⟩ := h8.2.2 k hk
    rw [h9 k hk] at y1; cases y1; exact y2
  · show abU S (rN (obF S (R.ws i)) 15) = _
    rw [obF_o h4, rN_r h10]; rfl
theorem resE_r (hY : YK R S0) {y : Nat} (h : rTy S0 y) : resE S0 y = [eT (abT S0 y)] := if_neg (h.n0 hY)
theorem eT_n (t : Nat) : (eT t).1 ≠ 8 ∧ (eT t).1 ≠ 4 ∧ (eT t).1 ≠ 5 ∧ (eT t).1 ≠ 6 := by
  unfold eT
  by_cases h : 10000 ≤ t
  · rw [if_pos h]
    by_cases g : t % 2 = 0
    · rw [if_pos g]; exact (by decide : (1 : Nat) ≠ 8 ∧ (1 : Nat) ≠ 4 ∧ (1 : Nat) ≠ 5 ∧ (1 : Nat) ≠ 6)
    · rw [if_neg g]; exact (by decide : (2 : Nat) ≠ 8 ∧ (2 : Nat) ≠ 4 ∧ (2 : Nat) ≠ 5 ∧ (2 : Nat) ≠ 6)
  · rw [if_neg h]; exact (by decide : (0 : Nat) ≠ 8 ∧ (0 : Nat) ≠ 4 ∧ (0 : Nat) ≠ 5 ∧ (0 : Nat) ≠ 6)
theorem wl_eT {t : Nat} : wl (eT t :: s) = wl s + 1 := wl_n (fun w => by
  have := eT_n t
  rcases w with w | w | w | w
  · exact this.1 w
  · exact this.2.1 w
  · exact this.2.2.1 w
  · exact this.2.2.2 w)
theorem resE_8 (hY : YK R S0) {y : Nat} (h : isTy S0 y 8 0 none) : resE S0 y = [] := by
  obtain ⟨t, _, _, _, a, b⟩ := abV_is hY h
  refine if_pos ?_
  rw [b, if_neg (by decide), if_neg (by decide), a]; rfl
/-- the type of ints, of bools, of tokens on the stack -/
theorem resE_i (hY : YK R S0) {y : Nat} (h : isTy S0 y 0 0 none) : resE S0 y = [(0, 1, 0)] := by
  obtain ⟨t, _, _, _, a, b⟩ := abV_is hY h
  have e : abT S0 y = 1 := by rw [b, if_neg (by decide), if_neg (by decide), a]; rfl
  unfold resE; rw [e]; rfl
theorem resE_b (hY : YK R S0) {y : Nat} (h : isTy S0 y 1 0 none) : resE S0 y = [(0, 2, 0)] := by
  obtain ⟨t, _, _, _, a, b⟩ := abV_is hY h
  have e : abT S0 y = 2 := by rw [b, if_neg (by decide), if_neg (by decide), a]; rfl
  unfold resE; rw [e]; rfl
theorem resE_t (hY : YK R S0) {y : Nat} (h : isTy S0 y 2 0 none) : resE S0 y = [(0, 3, 0)] := by
  obtain ⟨t, _, _, _, a, b⟩ := abV_is hY h
  have e : abT S0 y = 3 := by rw [b, if_neg (by decide), if_neg (by decide), a]; rfl
  unfold resE; rw [e]; rfl
theorem resE_ib (hY : YK R S0) {y : Nat} (h : isTy S0 y 0 0 none ∨ isTy S0 y 1 0 none) : ∃ t : Nat, (t = 1 ∨ t = 2) ∧ resE S0 y = [(0, t, 0)] := h.elim (fun h => ⟨1, Or.inl rfl, resE_i hY h⟩) (fun h => ⟨2, Or.inr rfl, resE_b hY h⟩)
/-- the rows of a point that looks at nothing -/
def pl0 (x : pRc) (K pp : Nat) : Prop := x.1 27 = nI K ∧ x.1 30 = -1 ∧ x.1 32 = nI pp ∧ x.1 33 = 0 ∧ x.1 34 = -1 ∧ x.1 35 = -1 ∧ x.2.2 36 = none ∧ x.2.2 37 = none ∧ x.2.2 38 = none
theorem pl0_o {K pp : Nat} : pl0 (ptRc (nI K) (nI pp)) K pp := ⟨rfl, rfl, rfl, rfl, rfl, rfl, rfl, rfl, rfl⟩
theorem gv0 {K pp n1 n2 n3 : Nat} {vs : List Nat} (hk : K < 28) (hj : K ≠ 26 ∧ K ≠ 16 ∧ K ≠ 17 ∧ K ≠ 18 ∧ K ≠ 19 ∧ K ≠ 20 ∧ K ≠ 21) (p : LPt R S0 Sb S P h Γ L L x z n) (hx : pl0 x K pp) (hpp : pp < R.T)
  (c39 : (K = 7 ∨ K = 11 ∨ K = 15) → ∃ y : Nat, x.2.2 39 = some y ∧ rTy S0 y ∧ abT S0 y = n1)
  (c28 : (K = 8 ∨ K = 9 ∨ K = 10) → x.1 28 = nI n1 ∧ x.1 29 = nI n2 ∧ x.2.1 = Int32.toInt64 (nI n3))
  (c42 : K = 8 → rAr R S (x.2.2 42) vs)
  (c40 : (K = 12 ∨ K = 13 ∨ K = 23 ∨ K = 24) → ∃ (va v : Nat) (ty : Option Nat) (mu : Int32), x.2.2 40 = some va ∧ vs = [v] ∧ isU S va v ty mu ∧ abU S0 ty = n1 ∧ ∀ y : Nat, ty = some y → rTy S0 y)
  (c41 : K = 22 → rAm R S0 S (x.2.2 41) n1 n2 vs) (c25 : K = 25 → x.1 28 = nI n1) (hw : wl s ≤ 177)
  (ht : tPt E P True ((K, 0, none, (none, none), ([], []), [P + 1], (n1, n2, n3), vs) : iR) s (fun j t => j = P + 1 ∧ wkS t s2)) (c10 : K ≠ 10 := by decide) : GV R S0 Sb S E P (P + 1) h0 h Γ0 Γ L L s s2 False z n := by
  obtain ⟨x1, x2, x3, x4, x5, x6, x7, x8, x9⟩ := hx
  refine ⟨p.1, p.2.1, tsg.one (i := (K, 0, none, (none, none), ([], []), [P + 1], (n1, n2, n3), vs)) (rz_g (K := K) rfl p.2.2.1 hk hj x1 x4 (Nat.zero_lt_succ _) x5 x6 (Or.inl ⟨x8, rfl⟩) (Or.inl ⟨x7, rfl⟩) ⟨pp, x3, hpp⟩ (Or.inl ⟨x9, rfl⟩) (fun l e => by cases e) x2 rfl c39 c28 c42 c40 c41 c25 (fun w => absurd w c10)) (fun l e => by cases e) (fun j hj => List.mem_singleton.mp hj) hw ht (fun w => w.elim), p.2.2.2.1, p.2.2.2.2.1, Nat.le_succ _, Nat.le_refl _, p.2.2.2.2.2.2⟩
/-- nothing of what is asked of an instruction's kind, for a plain one -/
theorem gvp {K pp : Nat} (hk : K = 0 ∨ K = 1 ∨ K = 4 ∨ K = 5 ∨ K = 6 ∨ K = 27) (p : LPt R S0 Sb S P h Γ L L x z n) (hx : pl0 x K pp) (hpp : pp < R.T) (hw : wl s ≤ 177)
  (ht : tPt E P True ((K, 0, none, (none, none), ([], []), [P + 1], (0, 0, 0), []) : iR) s (fun j t => j = P + 1 ∧ wkS t s2)) : GV R S0 Sb S E P (P + 1) h0 h Γ0 Γ L L s s2 False z n :=
  gv0 (n1 := 0) (n2 := 0) (n3 := 0) (vs := []) (by omega) (by omega) p hx hpp (fun w => by omega) (fun w => by omega) (fun w => by omega) (fun w => by omega) (fun w => by omega) (fun w => by omega) hw ht (by omega)
theorem iD0_0 {K n1 n2 n3 : Nat} {sc vs : List Nat} : iD0 ((K, 0, none, (none, none), ([], []), sc, (n1, n2, n3), vs) : iR) := ⟨rfl, rfl, rfl, rfl, rfl, rfl⟩
/-- a number, a bool; an input -/
theorem num_ {V : Sg → Option Nat → Option (Sg × Unit)} {e p q t : Nat} {kd : Int32} {num : Int64} {y : Nat} (hN : EN R S0 E) (hT : nT s) (hs : wl s = h) (hh : h + 1 ≤ 177) (c : LC R S0 S P h Γ2 L) (he : e ∈ ZL R.S) (hF : ZF S0 e = xtC kd p 0 0 0 0 num 0 .null .null .null 0 (.ref y) .null) (hp : p < R.T) (ht : t = 1 ∨ t = 2) (hP : P < 24000) : Rt (f_give_96 R.K V S (some e)) (fun S2 _ => GV R S0 S S2 E P (P + 1) h (h + 1) Γ2 Γ2 L L s ((0, t, 0) :: s) False 0 0) := by
  have hL := hN.1
  unfold f_give_96 f_give_251
  refine Rt.bd (c.1.vi (by decide) (by decide) (oI_mk (hL e he) hF (v := nI p) rfl)) ?_
  refine pnt_ (Lb := L) (Sb := S) (z := 0) (n := 0) hP c LZ.rf (Nat.le_refl _) (by omega) (by omega) UsK.rf (fun S2 p2 e2 => ?_)
  have hJ : oJ S2 15 (some e) 6 = some num := by
    obtain ⟨g1, g2⟩ := p2.1.1.ob (hL e he) hF (by decide) (by decide)
    exact oJ_mk g1 g2 rfl
  refine Rt.bd hJ (p2.wL hP (fun S3 p3 e3 => ?_))
  have e48 : Zi S3 48 + 1 = nI (h + 1) := by rw [p3.1.2.2.1]; exact nI_1 h
  refine p3.hh e48 (fun S4 p4 e4 => Rt.rt ?_)
  exact gvp (K := 1) (by decide) p4 (pl0_o (K := 1) (pp := p)) hp (by omega) (tP_1 rfl ⟨⟨iD0_0, hT⟩, t, ht, rfl, wkS.rf⟩)
theorem inp_ {V : Sg → Option Nat → Option (Sg × Unit)} {e p t : Nat} (hT : nT s) (hs : wl s = h) (hh : h + 1 ≤ 177) (c : LC R S0 S P h Γ2 L) (hp : p < R.T) (ht : t = 1 ∨ t = 2) (hP : P < 24000) : Rt (bnd (f_point R.K S 27 (nI p)) fun S18 v19 => (pM S18 48 ((Zi S18 48) + 1)).bind fun S20 => f_give_251 R.K V S20) (fun S2 _ => GV R S0 S S2 E P (P + 1) h (h + 1) Γ2 Γ2 L L s ((0, t, 0) :: s) False 0 0) := by
  unfold f_give_251
  refine pnt_ (Lb := L) (Sb := S) (z := 0) (n := 0) hP c LZ.rf (Nat.le_refl _) (by omega) (by omega) UsK.rf (fun S2 p2 e2 => ?_)
  have e48 : Zi S2 48 + 1 = nI (h + 1) := by rw [p2.1.2.2.1]; exact nI_1 h
  refine p2.hh e48 (fun S4 p4 e4 => Rt.rt ?_)
  exact gvp (K := 27) (by decide) p4 (pl0_o (K := 27) (pp := p)) hp (by omega) (tP_27 rfl ⟨⟨iD0_0, hT⟩, t, ht, rfl, wkS.rf⟩)
end LY16
