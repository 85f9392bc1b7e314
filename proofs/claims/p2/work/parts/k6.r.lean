/-- a statement, typed -/
def stC (kd : Int32) (tk : Nat) (nm mu rf : Int32) (wr ex pl vr bl cs bs ar : Value) (mn : Nat) : va_E := .inr (19, [.int kd, .int (nI tk), .int nm, .int mu, .int rf, wr, ex, pl, vr, bl, cs, bs, ar, .int (nI mn)])
/-- the function's variables, in their order -/
def LVS (R : yR) (S : Sg) (Λ : List Nat) : Prop := Zi S 24 = nI Λ.length ∧ Λ.length ≤ 40 ∧ ∀ (k v : Nat), Λ[k]? = some v → v ∉ ZL R.S ∧ ∃ (nm mu : Nat) (ty : Option Nat), isV S v k (nI nm) ty (nI mu) ∧ nm < R.T ∧ mu ≤ 1 ∧ ∀ x : Nat, ty = some x → rTy S x
/-- rows that the typing never writes -/
def ROW (R : yR) (S : Sg) : Prop := ∀ (a n : Nat) (k : ClassId) (f : vRw), a ∈ ZL R.S → ZF R.S a = .inl (k, n, f) → k ≠ R.K.1 0 → k ≠ R.K.1 4 → k ≠ R.K.1 5 → ZF S a = ZF R.S a
theorem ROW.vz {R : yR} {S S2 : Sg} {p q : Nat} (hV : VZ R (Xo R p q) S S2) (h : ROW R S) : ROW R S2 := fun a n k f h1 h2 h3 h4 h5 => (hV.nx (nXo.ro h1 h2 (Or.inl h5))).trans (h a n k f h1 h2 h3 h4 h5)
theorem ROW.vx {R : yR} {S S2 : Sg} {p q : Nat} (hV : VX R (Xo R p q) S S2) (h : ROW R S) : ROW R S2 := ROW.vz hV.2 h
/-- only grown -/
def pfx (Λ Λ2 : List Nat) : Prop := ∀ k v : Nat, Λ[k]? = some v → Λ2[k]? = some v
theorem pfx.rf {Λ : List Nat} : pfx Λ Λ := fun _ _ h => h
theorem pfx.tr {Λ Λ1 Λ2 : List Nat} (h : pfx Λ Λ1) (g : pfx Λ1 Λ2) : pfx Λ Λ2 := fun k v q => g k v (h k v q)
theorem pfx.mem {Λ Λ2 : List Nat} (h : pfx Λ Λ2) {v : Nat} (hv : v ∈ Λ) : v ∈ Λ2 := by
  obtain ⟨j, hj⟩ := List.mem_iff_getElem?.mp hv
  exact List.mem_of_getElem? (h j v hj)
theorem pfx.add {Λ : List Nat} {y : Nat} : pfx Λ (Λ ++ [y]) := fun k v h => by
  rw [List.getElem?_append_left (List.getElem?_eq_some_iff.mp h).1]; exact h
/-- an enum has so many variants -/
def enM (R : yR) (S : Sg) (i mn : Nat) : Prop := ∃ fs : List Value, i < R.im ∧ R.ik i = 11 ∧ nXo R (R.ws i) ∧ ZF S (R.ws i) = .inr (16, fs) ∧ fs[3]? = some (.int (nI mn)) ∧ mn ≤ 12
/-- statements (0), blocks (1), arms (2), typed: n depth, a address, tokens p to q, borrows b to c, variables v to w, the scope before and behind; κ: an arm's enum, its variant, how it is bound; gv what the function gives -/
def sN (R : yR) (S : Sg) (Λ : List Nat) (gv : Nat) : Nat → Nat → Nat → Nat → Nat → Nat → Nat → Nat → Nat → List Nat → List Nat → Nat × Nat × Nat → Prop
  | 0, _, _, _, _, _, _, _, _, _, _, _ => False
  | n + 1, 0, a, p, q, b, c, v, w, Γ, Γ2, _ => (a ∈ ZL R.S ∧ ownT (ZF R.S) a = some p ∧ p < q) ∧
    ((∃ (nm y : Nat) (mu : Int32) (wr ex : Value), ZF S a = stC 0 p (nI nm) mu 0 wr ex .null (.ref y) .null .null .null .null 0 ∧ Λ[v]? = some y ∧ w = v + 1 ∧ (Γ2 = Γ ++ [y] ∧ p < nm ∧ nm < q) ∧ ((ex = .null ∧ b = c) ∨ ∃ (x p' q' t : Nat) (m9 : Int32), ex = .ref x ∧ p < p' ∧ q' < q ∧ xE R S Γ 408 16 x p' q' b c t ∧ rTy S t ∧ isV S y v (nI nm) (some t) m9)) ∨
     (∃ (kd : Int32) (x p' q' t : Nat), (kd = 1 ∨ (kd = 7 ∧ (isTy S t 0 0 none ∨ isTy S t 1 0 none))) ∧ ZF S a = stC kd p 0 0 0 .null (.ref x) .null .null .null .null .null .null 0 ∧ p ≤ p' ∧ q' < q ∧ xE R S Γ 408 16 x p' q' b c t ∧ w = v ∧ Γ2 = Γ) ∨
     (∃ (x y q1 p2 q2 vv t mu mv : Nat) (π : List (Nat × Nat)), ZF S a = stC 2 p 0 0 0 .null (.ref x) (.ref y) .null .null .null .null .null 0 ∧ xPl R S Γ 408 y p q1 vv π t mu mv ∧ π.length ≤ 4 ∧ q1 < p2 ∧ q2 < q ∧ xE R S Γ 408 16 x p2 q2 b c t ∧ (π = [] ∨ mu = 1) ∧ w = v ∧ Γ2 = Γ) ∨
     (∃ (ca ba cap mn : Nat) (f g : Nat → Option Nat), ZF S a = stC 3 p 0 0 0 .null .null .null .null .null (.ref ca) (.ref ba) .null mn ∧ 1 ≤ mn ∧ mn ≤ cap ∧ nXo R ca ∧ nXo R ba ∧ ZF S ca = .inl (R.K.1 9, cap, .inr (.inr (.inr (.inr f)))) ∧ ZF S ba = .inl (R.K.1 10, cap, .inr (.inr (.inr (.inr g)))) ∧ (∀ i : Nat, i < mn → f i = none → i + 1 = mn) ∧ Γ2 = Γ ∧ chJ (fun i y p1 q1 b1 c1 v1 w1 => ∃ p0 b0 : Nat, ((f i = none ∧ b0 = b1) ∨ ∃ x p' q0 t : Nat, f i = some x ∧ p1 < p' ∧ q0 ≤ p0 ∧ xE R S Γ 408 16 x p' q0 b1 b0 t ∧ isTy S t 1 0 none) ∧ p1 ≤ p0 ∧ sN R S Λ gv n 1 y p0 q1 b0 c1 v1 w1 Γ Γ (0, 0, 0)) g mn p q b c v w) ∨
     (∃ x y q0 b1 t : Nat, ZF S a = stC 4 p 0 0 0 .null (.ref x) .null .null (.ref y) .null .null .null 0 ∧ xE R S Γ 408 16 x (p + 1) q0 b b1 t ∧ isTy S t 1 0 none ∧ sN R S Λ gv n 1 y q0 q b1 c v w Γ Γ (0, 0, 0) ∧ Γ2 = Γ) ∨
     (∃ (x ar cap mn p0 q0 b1 i t bd : Nat) (mu rf : Int32) (f : Nat → Option Nat) (vf : Nat → Nat), ZF S a = stC 5 p 0 mu rf .null (.ref x) .null .null .null .null .null (.ref ar) mn ∧ p < p0 ∧ ((rf = 0 ∧ mu = 0 ∧ bd = 0 ∧ xE R S Γ 408 16 x p0 q0 b b1 t) ∨ (rf = 1 ∧ b1 = b + 1 ∧ ∃ (vv m2 w2 : Nat) (π : List (Nat × Nat)), ((mu = 0 ∧ bd = 1) ∨ (mu = 1 ∧ bd = 2 ∧ m2 = 1)) ∧ xPl R S Γ 408 x p0 q0 vv π t m2 w2 ∧ π.length ≤ 4)) ∧ isTy S t 4 (nI i) none ∧ enM R S i mn ∧ nXo R ar ∧ ZF S ar = .inl (R.K.1 7, cap, .inr (.inr (.inr (.inr f)))) ∧ mn ≤ cap ∧ Γ2 = Γ ∧ chJ (fun k y p1 q1 b2 c1 v1 w1 => sN R S Λ gv n 2 y p1 q1 b2 c1 v1 w1 Γ Γ (i, vf k, bd)) f mn (q0 + 1) (q - 1) b1 c v w ∧ (∀ k j : Nat, k < mn → j < mn → vf k = vf j → k = j) ∧ ∀ k : Nat, k < mn → vf k < mn) ∨
     (∃ ex : Value, ZF S a = stC 6 p 0 0 0 .null ex .null .null .null .null .null .null 0 ∧ ((ex = .null ∧ b = c ∧ isTy S gv 8 0 none) ∨ ∃ x p' q' : Nat, ex = .ref x ∧ p < p' ∧ q' < q ∧ xE R S Γ 408 16 x p' q' b c gv ∧ rTy S gv) ∧ w = v ∧ Γ2 = Γ ∧ Zr R.S 5 p = 19) ∨
     (∃ y : Nat, ZF S a = stC 8 p 0 0 0 .null .null .null .null (.ref y) .null .null .null 0 ∧ sN R S Λ gv n 1 y p q b c v w Γ Γ (0, 0, 0) ∧ Γ2 = Γ))
  | n + 1, 1, a, p, q, b, c, v, w, Γ, Γ2, _ => nXo R a ∧ p < q ∧ Γ2 = Γ ∧ ∃ (la cap mn : Nat) (f : Nat → Option Nat) (gs : Nat → List Nat), ZF S a = .inr (14, [.int (nI p), .int (nI (q - 1)), .ref la, .int (nI mn)]) ∧ nXo R la ∧ ZF S la = .inl (R.K.1 11, cap, .inr (.inr (.inr (.inr f)))) ∧ mn ≤ cap ∧ gs 0 = Γ ∧ chJ (fun i y p1 q1 b1 c1 v1 w1 => sN R S Λ gv n 0 y p1 q1 b1 c1 v1 w1 (gs i) (gs (i + 1)) (0, 0, 0)) f mn (p + 1) (q - 1) b c v w
  | n + 1, _ + 2, a, p, q, b, c, v, w, Γ, _, κ => (a ∈ ZL R.S ∧ ownT (ZF R.S) a = some p ∧ p < q) ∧ ∃ (na bk mk p' : Nat) (fv : Nat → Option Nat) (tx : Nat → Nat) (us : List Nat), ZF S a = .inr (13, [.int (nI p), .int (nI κ.2.1), .ref na, .int (nI mk), .ref (a + 2), .ref bk]) ∧ a + 2 ∈ ZL R.S ∧ ZF R.S (a + 2) = .inl (R.K.1 5, 12, .inr (.inr (.inr (.inr (fun _ => none))))) ∧ ZF S (a + 2) = .inl (R.K.1 5, 12, .inr (.inr (.inr (.inr fv)))) ∧ mk ≤ 12 ∧ enY R S κ.1 κ.2.1 mk tx ∧ us.length = mk ∧ (∀ j : Nat, j < mk → ∃ (u ty : Nat) (nm : Int32), us[j]? = some u ∧ fv j = some u ∧ Λ[v + j]? = some u ∧ isV S u (v + j) nm (some ty) 0 ∧ ((κ.2.2 = 0 ∧ ty = tx j) ∨ (κ.2.2 = 1 ∧ isTy S ty 6 0 (some (tx j))) ∨ (κ.2.2 = 2 ∧ isTy S ty 7 0 (some (tx j))))) ∧ p + mk < p' ∧ sN R S Λ gv n 1 bk p' q b c (v + mk) w (Γ ++ us) (Γ ++ us) (0, 0, 0)
section SNL
variable {R : yR} {S S2 : Sg} {Λ Λ2 : List Nat} {gv p2 q2 : Nat}
theorem enM.vz (hV : VZ R (Xo R p2 q2) S S2) {i mn : Nat} (h : enM R S i mn) : enM R S2 i mn := by
  obtain ⟨fs, h1, h2, h3, h4, h5, h6⟩ := h
  exact ⟨fs, h1, h2, h3, (hV.nx h3).trans h4, h5, h6⟩
theorem enM.vx (hV : VX R (Xo R p2 q2) S S2) {i mn : Nat} (h : enM R S i mn) : enM R S2 i mn := enM.vz hV.2 h
theorem isV.vz {X : Nat → Prop} (hV : VZ R X S S2) {v ix x : Nat} {nm mu : Int32} (h : isV S v ix nm (some x) mu) : isV S2 v ix nm (some x) mu := by
  obtain ⟨t2, g1, g2⟩ := hV.2.2.2.1 v ix nm (some x) mu h
  rcases g2 with g2 | g2
  · cases g2.1
  · rw [← g2]; exact g1
theorem isV.vx {X : Nat → Prop} (hV : VX R X S S2) {v ix x : Nat} {nm mu : Int32} (h : isV S v ix nm (some x) mu) : isV S2 v ix nm (some x) mu := isV.vz hV.2 h
theorem sN_lt : ∀ {n t a p q b c v w : Nat} {Γ Γ2 : List Nat} {κ : Nat × Nat × Nat}, sN R S Λ gv n t a p q b c v w Γ Γ2 κ → p < q
  | 0, _, _, _, _, _, _, _, _, _, _, _, h => h.elim
  | _ + 1, 0, _, _, _, _, _, _, _, _, _, _, h => h.1.2.2
  | _ + 1, 1, _, _, _, _, _, _, _, _, _, _, h => h.2.1
  | _ + 1, _ + 2, _, _, _, _, _, _, _, _, _, _, h => h.1.2.2
theorem chJ_ps {P : Nat → Nat → Nat → Nat → Nat → Nat → Nat → Nat → Prop} {f : Nat → Option Nat} {n : Nat} {ps bs vs : Nat → Nat} (hP : ∀ i x p q b c v w : Nat, P i x p q b c v w → p < q) (h : ∀ i : Nat, i < n → ∃ x : Nat, f i = some x ∧ P i x (ps i) (ps (i + 1)) (bs i) (bs (i + 1)) (vs i) (vs (i + 1))) : ∀ (d i : Nat), i + d ≤ n → ps i ≤ ps (i + d)
  | 0, _, _ => Nat.le_refl _
  | d + 1, i, hi => by
    have h1 := chJ_ps hP h d i (by omega)
    obtain ⟨x, _, h3⟩ := h (i + d) (by omega)
    have := hP _ _ _ _ _ _ _ _ h3
    show ps i ≤ ps (i + d + 1)
    omega
/-- .. each told with its tokens inside -/
theorem chJ_in {P P2 : Nat → Nat → Nat → Nat → Nat → Nat → Nat → Nat → Prop} {f : Nat → Option Nat} {n p q b c v w : Nat} (h : chJ P f n p q b c v w) (hP : ∀ i x p1 q1 b1 c1 v1 w1 : Nat, i < n → p ≤ p1 → q1 ≤ q → P i x p1 q1 b1 c1 v1 w1 → P2 i x p1 q1 b1 c1 v1 w1) (hlt : ∀ i x p1 q1 b1 c1 v1 w1 : Nat, P i x p1 q1 b1 c1 v1 w1 → p1 < q1) : chJ P2 f n p q b c v w := by
  obtain ⟨ps, bs, vs, h1, h2, h3, h4, h5, h6, h7⟩ := h
  refine ⟨ps, bs, vs, h1, h2, h3, h4, h5, h6, fun i hi => ?_⟩
  obtain ⟨x, g1, g2⟩ := h7 i hi
  have a1 := chJ_ps hlt h7 i 0 (by omega)
  have a2 := chJ_ps hlt h7 (n - (i + 1)) (i + 1) (by omega)
  rw [Nat.zero_add] at a1
  rw [show i + 1 + (n - (i + 1)) = n by omega] at a2
  exact ⟨x, g1, hP i x _ _ _ _ _ _ hi (by omega) (by omega) g2⟩
/-- a typed statement stays, whatever else is typed -/
theorem sN_vz (hV : VZ R (Xo R p2 q2) S S2) (hΛ : pfx Λ Λ2) : ∀ {n t a p q b c v w : Nat} {Γ Γ2 : List Nat} {κ : Nat × Nat × Nat}, sN R S Λ gv n t a p q b c v w Γ Γ2 κ → dj p q p2 q2 → sN R S2 Λ2 gv n t a p q b c v w Γ Γ2 κ
  | 0, _, _, _, _, _, _, _, _, _, _, _, h, _ => h.elim
  | n + 1, 0, a, p, q, b, c, v, w, Γ, Γ2, κ, h, hd => by
    obtain ⟨⟨h1, h2, h3⟩, h5⟩ := h
    have hT := hV.2.2.1
    have he : ∀ {k : Nat} {vs : List Value}, ZF S a = .inr (k, vs) → ZF S2 a = .inr (k, vs) := fun {k vs} w => (hV.1 a h1 (fun x => Xo_dj (Or.inl ⟨p, h2, Nat.le_refl _, h3⟩) x hd)).trans w
    have hds : ∀ {p1 q1 : Nat}, p ≤ p1 → q1 ≤ q → dj p1 q1 p2 q2 := fun a1 a2 => by rcases hd with w | w; exact Or.inl (by omega); exact Or.inr (by omega)
    have hX : ∀ {x p1 q1 b1 c1 t : Nat}, p ≤ p1 → q1 ≤ q → xE R S Γ 408 16 x p1 q1 b1 c1 t → xE R S2 Γ 408 16 x p1 q1 b1 c1 t := fun a1 a2 w => xE_vz hV w (hV.fr (hds a1 a2))
    refine ⟨⟨h1, h2, h3⟩, ?_⟩
    rcases h5 with ⟨nm, y, mu, wr, ex, k1, k2, k3, k4, k5⟩ | ⟨kd, x, p', q', t, k1, k2, k3, k4, k5, k6, k7⟩ | ⟨x, y, q1, p3, q3, vv, t, mu, mv, π, k1, k2, k3, k4, k5, k6, k7, k8, k9⟩ | ⟨ca, ba, cap, mn, f, g, k1, k2, k3, k4, k5, k6, k7, k8, k9, l1⟩ | ⟨x, y, q0, b1, t, k1, k2, k3, k4, k5⟩ | ⟨x, ar, cap, mn, p0, q0, b1, i, t, bd, mu, rf, f, vf, k1, k2, k3, k4, k5, k6, k7, k8, k9, l1, l2, l3⟩ | ⟨ex, k1, k2, k3, k4⟩ | ⟨y, k1, k2, k3⟩
    · refine Or.inl ⟨nm, y, mu, wr, ex, he k1, hΛ _ _ k2, k3, k4, k5.imp id (fun ⟨x, p', q', t, m9, e1, e2, e3, e4, e5, e6⟩ => ⟨x, p', q', t, m9, e1, e2, e3, hX (by omega) (by omega) e4, e5.im hT, e6.vz hV⟩)⟩
    · exact Or.inr (Or.inl ⟨kd, x, p', q', t, k1.imp id (fun z => ⟨z.1, z.2.imp (hT _ _ _ _) (hT _ _ _ _)⟩), he k2, k3, k4, hX k3 (by omega) k5, k6, k7⟩)
    · have hl := (xPl_c k2).2.1
      have hl2 := xE_lt k6
      exact Or.inr (Or.inr (Or.inl ⟨x, y, q1, p3, q3, vv, t, mu, mv, π, he k1, xPl_vz hV k2 (hV.fr (hds (Nat.le_refl _) (by omega))), k3, k4, k5, hX (by omega) (by omega) k6, k7, k8, k9⟩))
    · refine Or.inr (Or.inr (Or.inr (Or.inl ⟨ca, ba, cap, mn, f, g, he k1, k2, k3, k4, k5, (hV.nx k4).trans k6, (hV.nx k5).trans k7, k8, k9, chJ_in l1 ?_ ?_⟩)))
      · rintro i y p1 q1 b1 c1 v1 w1 _ a1 a2 ⟨p0, b0, g1, g2, g3⟩
        have := sN_lt g3
        refine ⟨p0, b0, g1.imp id (fun ⟨x, p', q0, t, e1, e2, e3, e4, e5⟩ => ⟨x, p', q0, t, e1, e2, e3, hX (by omega) (by omega) e4, hT _ _ _ _ e5⟩), g2, sN_vz hV hΛ g3 (hds (by omega) (by omega))⟩
      · rintro i y p1 q1 b1 c1 v1 w1 ⟨p0, b0, g1, g2, g3⟩
        have := sN_lt g3; omega
    · have := sN_lt k4
      exact Or.inr (Or.inr (Or.inr (Or.inr (Or.inl ⟨x, y, q0, b1, t, he k1, hX (by omega) (by omega) k2, hT _ _ _ _ k3, sN_vz hV hΛ k4 (hds (by have := xE_lt k2; omega) (Nat.le_refl _)), k5⟩))))
    · have hpq0 : p0 ≤ q0 ∧ q0 ≤ q := by
        obtain ⟨ps, bs, vs, z1, z2, _, _, _, _, z7⟩ := l1
        have hps := chJ_ps (P := fun k y p1 q1 b2 c1 v1 w1 => sN R S Λ gv n 2 y p1 q1 b2 c1 v1 w1 Γ Γ (i, vf k, bd)) (bs := bs) (vs := vs) (fun i x p q b c v w z => sN_lt z) z7 mn 0 (by omega)
        rw [Nat.zero_add] at hps
        have hlt : p0 < q0 := by
          rcases k3 with ⟨_, _, _, z⟩ | ⟨_, _, vv, m2, w2, π, _, z, _⟩
          · exact xE_lt z
          · exact (xPl_c z).2.1
        omega
      refine Or.inr (Or.inr (Or.inr (Or.inr (Or.inr (Or.inl ⟨x, ar, cap, mn, p0, q0, b1, i, t, bd, mu, rf, f, vf, he k1, k2, ?_, hT _ _ _ _ k4, k5.vz hV, k6, (hV.nx k6).trans k7, k8, k9, chJ_in l1 (fun k y p1 q1 b2 c1 v1 w1 _ a1 a2 z => sN_vz hV hΛ z (hds (by omega) (by omega))) (fun k y p1 q1 b2 c1 v1 w1 z => sN_lt z), l2, l3⟩)))))
      exact k3.imp (fun ⟨e1, e2, e3, e4⟩ => ⟨e1, e2, e3, hX (by omega) (by omega) e4⟩) (fun ⟨e1, e2, vv, m2, w2, π, e3, e4, e5⟩ => ⟨e1, e2, vv, m2, w2, π, e3, xPl_vz hV e4 (hV.fr (hds (by omega) (by omega))), e5⟩)
    · exact Or.inr (Or.inr (Or.inr (Or.inr (Or.inr (Or.inr (Or.inl ⟨ex, he k1, k2.imp (fun ⟨e1, e2, e3⟩ => ⟨e1, e2, hT _ _ _ _ e3⟩) (fun ⟨x, p', q', e1, e2, e3, e4, e5⟩ => ⟨x, p', q', e1, e2, e3, hX (by omega) (by omega) e4, e5.im hT⟩), k3, k4⟩))))))
    · exact Or.inr (Or.inr (Or.inr (Or.inr (Or.inr (Or.inr (Or.inr ⟨y, he k1, sN_vz hV hΛ k2 hd, k3⟩))))))
  | n + 1, 1, a, p, q, b, c, v, w, Γ, Γ2, κ, h, hd => by
    obtain ⟨h1, h2, h3, la, cap, mn, f, gs, k1, k2, k3, k4, k5, k6⟩ := h
    have hds : ∀ {p1 q1 : Nat}, p ≤ p1 → q1 ≤ q → dj p1 q1 p2 q2 := fun a1 a2 => by rcases hd with w | w; exact Or.inl (by omega); exact Or.inr (by omega)
    exact ⟨h1, h2, h3, la, cap, mn, f, gs, (hV.nx h1).trans k1, k2, (hV.nx k2).trans k3, k4, k5, chJ_in k6 (fun i y p1 q1 b1 c1 v1 w1 _ a1 a2 z => sN_vz hV hΛ z (hds (by omega) (by omega))) (fun i y p1 q1 b1 c1 v1 w1 z => sN_lt z)⟩
  | n + 1, t + 2, a, p, q, b, c, v, w, Γ, Γ2, κ, h, hd => by
    obtain ⟨⟨h1, h2, h3⟩, na, bk, mk, p', fv, tx, us, k1, k2, k3, k4, k5, k6, k7, k8, k9, l1⟩ := h
    have hT := hV.2.2.1
    have hds : ∀ {p1 q1 : Nat}, p ≤ p1 → q1 ≤ q → dj p1 q1 p2 q2 := fun a1 a2 => by rcases hd with w | w; exact Or.inl (by omega); exact Or.inr (by omega)
    have hXa : Xo R p q a := Or.inl ⟨p, h2, Nat.le_refl _, h3⟩
    have hXv : Xo R p q (a + 2) := Or.inr (Or.inl ⟨a, p, rfl, h2, Nat.le_refl _, h3, k3⟩)
    refine ⟨⟨h1, h2, h3⟩, na, bk, mk, p', fv, tx, us, (hV.1 a h1 (fun x => Xo_dj hXa x hd)).trans k1, k2, k3, (hV.1 _ k2 (fun x => Xo_dj hXv x hd)).trans k4, k5, k6.vz hV, k7, fun j hj => ?_, k9, sN_vz hV hΛ l1 (hds (by omega) (Nat.le_refl _))⟩
    obtain ⟨u, ty, nm, e1, e2, e3, e4, e5⟩ := k8 j hj
    exact ⟨u, ty, nm, e1, e2, hΛ _ _ e3, e4.vz hV, e5.imp id (fun z => z.imp (fun z => ⟨z.1, hT _ _ _ _ z.2⟩) (fun z => ⟨z.1, hT _ _ _ _ z.2⟩))⟩
theorem sN_vx (hV : VX R (Xo R p2 q2) S S2) (hΛ : pfx Λ Λ2) : ∀ {n t a p q b c v w : Nat} {Γ Γ2 : List Nat} {κ : Nat × Nat × Nat}, sN R S Λ gv n t a p q b c v w Γ Γ2 κ → dj p q p2 q2 → sN R S2 Λ2 gv n t a p q b c v w Γ Γ2 κ := sN_vz hV.2 hΛ
end SNL
