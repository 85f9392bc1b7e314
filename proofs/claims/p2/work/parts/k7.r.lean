-- k7.r.lean.txt
section
section LIA
variable {R : yR} {c nv : Nat} {S : Sg}
/-- x is the type of a part of variant k -/
def fdV (R : yR) (S : Sg) (fv : Nat → Option Nat) (k x : Nat) : Prop := ∃ (pa wa ta mk l : Nat) (f : Nat → Option Nat), fv k = some pa ∧ ZF S pa = .inr (17, [.int (nI mk), .ref wa, .ref ta]) ∧ mk ≤ 12 ∧ ZF S ta = .inl (R.K.1 4, 12, .inr (.inr (.inr (.inr f)))) ∧ l < mk ∧ f l = some x
theorem lieE (h : TS R c nv S) {i j mn vr : Nat} {fs : List Value} {fv : Nat → Option Nat} (hw : R.ws i ∈ ZL S) (hF : ZF S (R.ws i) = .inr (16, fs)) (h2 : fs[2]? = some (.int 11)) (h3 : fs[3]? = some (.int (nI mn))) (hmn : mn ≤ 12) (h11 : fs[11]? = some (.ref vr)) (hvr : vr ∈ ZL S) (hvF : ZF S vr = .inl (R.K.1 13, 13, .inr (.inr (.inr (.inr fv))))) (hpa : ∀ k : Nat, k < mn → ∃ (pa mk : Nat) (f : Nat → Option Nat), fv k = some pa ∧ paY R S pa mk f) : ∀ (m k : Nat), mn < k + m → k ≤ mn → (∀ (l x : Nat), l < k → fdV R S fv l x → nIt S x j) → Rt (f_lies_10 R.K m S (nI j) (some (R.ws i)) (nI k)) (fun S2 r => S2 = S ∧ (r = 1 ∨ (r = 0 ∧ ∀ (l x : Nat), l < mn → fdV R S fv l x → nIt S x j)))
  | 0, k, h1, h2, _ => by omega
  | m + 1, k, hk1, hk2, hd => by
    unfold f_lies_10
    refine Rt.bd (oI_mk hw hF h3) (Rt.it (fun w9 => ?_) (fun w9 => ?_))
    · have := (nI_leI (a := mn) (b := k) (by omega) (by omega)).mp w9
      exact Rt.zr (Or.inl rfl) ⟨rfl, Or.inr ⟨rfl, fun l x hl => hd l x (by omega)⟩⟩
    have hlt : k < mn := by
      rcases Nat.lt_or_ge k mn with z | z
      · exact z
      · exact absurd (nI_le z (by omega)) w9
    refine Rt.bd (oI_mk hw hF h2) (Rt.iq (by decide) ?_)
    unfold f_lies_44
    obtain ⟨pa, mk, f, p1, p2, p3⟩ := hpa k hlt
    rcases p3 with ⟨p3, p4⟩ | ⟨wa, ta, p3, p4, p5⟩
    · unfold bigN f_lies_47 f_lies_99
      refine Rt.bd (oI_mk hw hF h2) (Rt.ip rfl (Rt.bd (oR_mk (v := some vr) hw hF h11) (Rt.bd (aQ_n hvr hvF (show k < 13 by omega) (by decide)) ?_)))
      rw [p1]
      refine Rt.bd (oI_mk (h.L p2.1) p3 (v := 0) rfl) (Rt.ip (by decide) ?_)
      rw [nI_1]
      refine lieE h hw hF h2 h3 hmn h11 hvr hvF hpa m (k + 1) (by omega) (by omega) (fun l x hl hf => ?_)
      by_cases e0 : l = k
      · subst e0
        obtain ⟨pa2, wa2, ta2, mk2, l2, f2, q1, q2, _⟩ := hf
        rw [p1] at q1; cases q1
        have e := (Prod.mk.inj (Sum.inr.inj (p3.symm.trans q2))).2
        have e := (List.cons.inj (List.cons.inj e).2).1
        cases e
      · exact hd l x (by omega) hf
    · refine lieV h hw hF h2 hmn h11 hvr hvF hlt p1 (h.L p2.1) p3 p4 p5 (fun hl9 => ?_) ⟨rfl, Or.inl rfl⟩ bigN 0 (by unfold bigN; omega) (Nat.zero_le _) (fun l9 x hl => absurd hl (by omega))
      refine lieE h hw hF h2 h3 hmn h11 hvr hvF hpa m (k + 1) (by omega) (by omega) (fun l x hl hf => ?_)
      by_cases e0 : l = k
      · subst e0
        obtain ⟨pa2, wa2, ta2, mk2, l2, f2, q1, q2, q3, q4, q5, q6⟩ := hf
        rw [p1] at q1; cases q1
        have e := (Prod.mk.inj (Sum.inr.inj (p3.symm.trans q2))).2
        simp only [List.cons.injEq, Value.int.injEq, Value.ref.injEq, and_true] at e
        obtain ⟨e1, e2, e3⟩ := e
        have e1 := nI_ij e1 (by omega) (by omega)
        subst e1; subst e3
        rw [p5.2.1] at q4; cases q4
        exact hl9 l2 x q5 q6
      · exact hd l x (by omega) hf
/-- lies -/
theorem lie_ (hD : RDI R) (h : TS R c nv S) (hA : ITA R S) {i j : Nat} (hi : i < R.im) (hk : R.ik i ≠ 12) : Rt (f_lies R.K S (nI i) (nI j)) (fun S2 r => S2 = S ∧ (r = 1 ∨ (r = 0 ∧ ∀ x : Nat, fdO R S i x → nIt S x j))) := by
  obtain ⟨a1, a2, fs, mn, na, g, a3, a4, a5, a6, a7, a8, a9, a10, a11⟩ := hA i hi
  have hw := h.L a1.1
  unfold f_lies
  refine Rt.bd (hD.it h hi) ?_
  rcases a11 with ⟨k1, ta, f, k2, k3⟩ | ⟨k1, vr, fv, k2, k3, k4, k5⟩ | ⟨k1, _⟩
  · rw [k1] at a4
    refine (lieS h hw a3 a4 a5 a6 k2 k3 bigN 0 (by unfold bigN; omega) (Nat.zero_le _) (fun l x hl => absurd hl (by omega))).mo (fun S2 r q => ⟨q.1, q.2.imp id (fun z => ⟨z.1, fun x hx => ?_⟩)⟩)
    obtain ⟨fs2, mn2, e1, e2, e3, e4⟩ := hx
    have ee : fs = fs2 := (Prod.mk.inj (Sum.inr.inj (a3.symm.trans e1))).2
    subst ee
    have em : mn = mn2 := nI_ij (Value.int.inj (Option.some.inj (a5.symm.trans e2))) (by omega) (by omega)
    subst em
    rcases e4 with ⟨_, ta2, k, f2, y1, y2, y3, y4⟩ | ⟨y0, _⟩
    · have et : ta = ta2 := Value.ref.inj (Option.some.inj (k2.symm.trans y1))
      subst et
      rw [k3.2.1] at y2; cases y2
      exact z.2 k x y3 y4
    · rw [k1] at y0; exact absurd y0 (by decide)
  · rw [k1] at a4
    refine (lieE h hw a3 a4 a5 a6 k2 (h.L k3.1) k4 k5 bigN 0 (by unfold bigN; omega) (Nat.zero_le _) (fun l x hl => absurd hl (by omega))).mo (fun S2 r q => ⟨q.1, q.2.imp id (fun z => ⟨z.1, fun x hx => ?_⟩)⟩)
    obtain ⟨fs2, mn2, e1, e2, e3, e4⟩ := hx
    have ee : fs = fs2 := (Prod.mk.inj (Sum.inr.inj (a3.symm.trans e1))).2
    subst ee
    have em : mn = mn2 := nI_ij (Value.int.inj (Option.some.inj (a5.symm.trans e2))) (by omega) (by omega)
    subst em
    rcases e4 with ⟨y0, _⟩ | ⟨_, vr2, k, pa, wa, ta, mk, l, fv2, f2, y1, y2, y3, y4⟩
    · rw [k1] at y0; exact absurd y0 (by decide)
    · have et : vr = vr2 := Value.ref.inj (Option.some.inj (k2.symm.trans y1))
      subst et
      rw [k4] at y2; cases y2
      exact z.2 k x y3 ⟨pa, wa, ta, mk, l, f2, y4⟩
  · exact absurd k1 hk
end LIA
end
-- k7.s.lean.txt
section
theorem nI_70 : ∀ n : Nat, 70 * nI n = nI (70 * n)
  | 0 => rfl
  | n + 1 => by rw [← nI_add, Int32.mul_add, nI_70 n, show (70 : Int32) * nI 1 = nI 70 from rfl, nI_add, show 70 * n + 70 = 70 * (n + 1) by omega]
theorem nI_ij70 {i j : Nat} : 70 * nI i + nI j = nI (70 * i + j) := by rw [nI_70, nI_add]
section EDL
variable {R : yR} {c nv : Nat} {S : Sg}
theorem Ur_Ur {r : Nat} {f g : Nat → Int32} : Ur (Ur S r f) r g = Ur S r g := by
  have : va_up (va_up (Zr S) r f) r g = va_up (Zr S) r g := by
    funext k
    by_cases e : k = r
    · subst e; rw [va_up_self, va_up_self]
    · rw [va_up_ne _ _ e, va_up_ne _ _ e, va_up_ne _ _ e]
  show (Zi S, va_up (va_up (Zr S) r f) r g, _) = _
  rw [this]
  rfl
theorem TS.u20 (h : TS R c nv S) {f : Nat → Int32} : TS R c nv (Ur S 20 f) := by
  obtain ⟨G, tm, Y, ad, h1, h2, h3, h4⟩ := h
  have hn : ∀ r : Nat, r ≠ 20 → Zr (Ur S 20 f) r = Zr S r := fun r hr => va_up_ne _ _ hr
  refine ⟨G, tm, Y, ad, ⟨?_, h1.2⟩, h2, h3, h4.1, fun r hr => (hn r hr).trans (h4.2.1 r hr), h4.2.2⟩
  rw [hn 5 (by decide), hn 6 (by decide), hn 7 (by decide)]
  exact h1.1
theorem VZ.u20 {X : Nat → Prop} {f : Nat → Int32} : VZ R X S (Ur S 20 f) := ⟨fun _ _ _ => rfl, fun _ q => q, fun _ _ _ _ q => q, fun v ix nm ty mu q => ⟨ty, q, Or.inr rfl⟩, fun q => q⟩
/-- zeros and ones -/
def bz (n : Nat) (g : Nat → Int32) : Prop := ∀ i j : Nat, i < n → j < n → g (70 * i + j) = 0 ∨ g (70 * i + j) = 1
/-- the table says all that lies in an item directly -/
def eD (R : yR) (S : Sg) (g : Nat → Int32) (i j : Nat) : Prop := (g (70 * i + j) = 0 ∨ g (70 * i + j) = 1) ∧ (g (70 * i + j) = 0 → R.ik i = 12 ∨ R.ik j = 12 ∨ ∀ x : Nat, fdO R S i x → nIt S x j)
theorem upd_n {f : Nat → Int32} {k j : Nat} {v : Int32} (h : j ≠ k) : upd f k v j = f j := if_neg h
theorem upd_s {f : Nat → Int32} {k : Nat} {v : Int32} : upd f k v k = v := if_pos rfl
theorem edl12 (hD : RDI R) (h : TS R c nv S) (hA : ITA R S) {P : Sg → Unit → Prop} {k2 : Sg → Int32 → Option (Sg × Unit)} {i : Nat} (hi : i < R.im) (hk : ∀ g : Nat → Int32, (∀ a b : Nat, a < i + 1 → b < R.im → eD R S g a b) → Rt (k2 (Ur S 20 g) (nI (i + 1))) P) : ∀ (m j : Nat) (g : Nat → Int32), R.im < j + m → j ≤ R.im → (∀ a b : Nat, b < R.im → (a < i ∨ (a = i ∧ b < j)) → eD R S g a b) → Rt (f_endless_12 R.K k2 m (Ur S 20 g) (nI i) (nI j)) P
  | 0, j, g, h1, h2, _ => by omega
  | m + 1, j, g, h1, h2, hd => by
    have hD0 := hD.1
    have t1 : TS R c nv (Ur S 20 g) := h.u20
    have hA1 : ITA R (Ur S 20 g) := fun k hk => (hA k hk).vz (p := 0) (q := 0) (S2 := Ur S 20 g) VZ.u20
    unfold f_endless_12
    rw [t1.i12 hD]
    refine Rt.it (fun w9 => ?_) (fun w9 => ?_)
    · have := (nI_leI (a := R.im) (b := j) (by omega) (by omega)).mp w9
      rw [nI_1]
      exact hk g (fun a b ha hb => hd a b hb (by omega))
    have hlt : j < R.im := by
      rcases Nat.lt_or_ge j R.im with z | z
      · exact z
      · exact absurd (nI_le z (by omega)) w9
    obtain ⟨b1, b2, b3, fs9, gs9, b4, b5, b6, b7, b8, b9, b10, b11⟩ := hD.ob t1 hi
    obtain ⟨d1, d2, d3, fs8, gs8, d4, d5, d6, d7, d8, d9, d10, d11⟩ := hD.ob t1 hlt
    have hgo : ∀ v : Int32, (v = 0 ∨ v = 1) → (v = 0 → R.ik i = 12 ∨ R.ik j = 12 ∨ ∀ x : Nat, fdO R S i x → nIt S x j) → Rt (f_endless_72 R.K k2 (f_endless_12 R.K k2 m) (Ur S 20 g) (nI i) (nI j) v (nI (70 * i + j))) P := fun v hv hx => by
      unfold f_endless_72
      refine Rt.bd (wZ_n (show 70 * i + j < rlen 20 by show _ < 4900; omega) (by decide) hv) ?_
      rw [Zr_s, Ur_Ur, nI_1]
      refine edl12 hD h hA hi hk m (j + 1) _ (by omega) (by omega) (fun a b hb hab => ?_)
      by_cases e0 : 70 * a + b = 70 * i + j
      · have ea : a = i := by omega
        have eb : b = j := by omega
        subst ea; subst eb
        unfold eD
        rw [upd_s]
        exact ⟨hv, hx⟩
      · unfold eD
        rw [upd_n e0]
        exact hd a b hb (by omega)
    rw [nI_ij70]
    unfold f_endless_71
    refine Rt.bd (hD.it t1 hi) (Rt.bd (oI_mk b2 b5 b11) (Rt.it (fun ek => hgo 0 (Or.inl rfl) (fun _ => Or.inl ek)) (fun ek => ?_)))
    refine Rt.bd (hD.it t1 hlt) (Rt.bd (oI_mk d2 d5 d11) (Rt.it (fun ek2 => hgo 0 (Or.inl rfl) (fun _ => Or.inr (Or.inl ek2))) (fun ek2 => ?_)))
    refine Rt.bn (lie_ hD t1 hA1 hi ek) (fun S2 r q => ?_)
    obtain ⟨e, q⟩ := q
    rw [e]
    rcases q with q | ⟨q, q2⟩
    · exact Rt.iq (by rw [q]; decide) (hgo 1 (Or.inr rfl) (fun w => absurd w (by decide)))
    · exact Rt.ip q (hgo 0 (Or.inl rfl) (fun _ => Or.inr (Or.inr q2)))
theorem edl2 (hD : RDI R) (h : TS R c nv S) (hA : ITA R S) {P : Sg → Unit → Prop} (hk : ∀ g : Nat → Int32, (∀ a b : Nat, a < R.im → b < R.im → eD R S g a b) → Rt (f_endless_87 R.K bigN (Ur S 20 g) 0) P) : ∀ (m i : Nat) (g : Nat → Int32), R.im < i + m → i ≤ R.im → (∀ a b : Nat, a < i → b < R.im → eD R S g a b) → Rt (f_endless_2 R.K m (Ur S 20 g) (nI i)) P
  | 0, j, g, h1, h2, _ => by omega
  | m + 1, i, g, h1, h2, hd => by
    have hD0 := hD.1
    have t1 : TS R c nv (Ur S 20 g) := h.u20
    unfold f_endless_2
    rw [t1.i12 hD]
    refine Rt.it (fun w9 => ?_) (fun w9 => ?_)
    · have := (nI_leI (a := R.im) (b := i) (by omega) (by omega)).mp w9
      exact hk g (fun a b ha hb => hd a b (by omega) hb)
    have hlt : i < R.im := by
      rcases Nat.lt_or_ge i R.im with z | z
      · exact z
      · exact absurd (nI_le z (by omega)) w9
    exact edl12 hD h hA hlt (fun g2 h2 => edl2 hD h hA hk m (i + 1) g2 (by omega) (by omega) h2) bigN 0 g (by unfold bigN; omega) (Nat.zero_le _) (fun a b hb hab => hd a b (by omega) hb)
end EDL
end
-- k7.t.lean.txt
section
section EDW
variable {R : yR} {c nv : Nat} {S : Sg}
theorem edl107 (hD : RDI R) (h : TS R c nv S) {P : Sg → Unit → Prop} {k87 : Sg → Int32 → Option (Sg × Unit)} {k97 : Sg → Int32 → Int32 → Option (Sg × Unit)} {k a : Nat} {f0 : Nat → Int32} (hkm : k < R.im) (ha : a < R.im) (hk : ∀ g : Nat → Int32, wI R.im k a R.im f0 g → bz R.im g → Rt (k97 (Ur S 20 g) (nI k) (nI (a + 1))) P) : ∀ (m b : Nat) (g : Nat → Int32), R.im < b + m → b ≤ R.im → wI R.im k a b f0 g → bz R.im g → Rt (f_endless_107 R.K k87 k97 m (Ur S 20 g) (nI k) (nI a) (nI b)) P
  | 0, b, g, h1, h2, _, _ => by omega
  | m + 1, b, g, h1, h2, hw, hz => by
    have hD0 := hD.1
    have t1 : TS R c nv (Ur S 20 g) := h.u20
    unfold f_endless_107
    rw [t1.i12 hD]
    refine Rt.it (fun w9 => ?_) (fun w9 => ?_)
    · have e : b = R.im := by have := (nI_leI (a := R.im) (b := b) (by omega) (by omega)).mp w9; omega
      subst e
      rw [nI_1]
      exact hk g hw hz
    have hlt : b < R.im := by
      rcases Nat.lt_or_ge b R.im with z | z
      · exact z
      · exact absurd (nI_le z (by omega)) w9
    unfold f_endless_155
    rw [nI_ij70, nI_ij70, nI_ij70, nI_1]
    have go : ∀ g2 : Nat → Int32, wI R.im k a (b + 1) f0 g2 → bz R.im g2 → Rt (f_endless_107 R.K k87 k97 m (Ur S 20 g2) (nI k) (nI a) (nI (b + 1))) P := fun g2 w2 z2 => edl107 hD h hkm ha hk m (b + 1) g2 (by omega) (by omega) w2 z2
    refine Rt.bd (rI_n (show 70 * a + k < rlen 20 by show _ < 4900; omega) (by decide)) ?_
    rw [Zr_s]
    refine Rt.it (fun e => go g (wI_no hw hkm ha hlt (Or.inl (fun q => q e))) hz) (fun e => ?_)
    refine Rt.bd (rI_n (show 70 * k + b < rlen 20 by show _ < 4900; omega) (by decide)) ?_
    rw [Zr_s]
    refine Rt.it (fun e2 => go g (wI_no hw hkm ha hlt (Or.inr (fun q => q e2))) hz) (fun e2 => ?_)
    refine Rt.bd (wZ_n (show 70 * a + b < rlen 20 by show _ < 4900; omega) (by decide) (Or.inr rfl)) ?_
    rw [Zr_s, Ur_Ur]
    refine go _ (wI_set hw hD0 hkm ha hlt e e2) (fun i j hi hj => ?_)
    by_cases e0 : 70 * i + j = 70 * a + b
    · rw [e0, upd_s]; exact Or.inr rfl
    · rw [upd_n e0]; exact hz i j hi hj
theorem edl97 (hD : RDI R) (h : TS R c nv S) {P : Sg → Unit → Prop} {k87 : Sg → Int32 → Option (Sg × Unit)} {k : Nat} {f0 : Nat → Int32} (hkm : k < R.im) (hk : ∀ g : Nat → Int32, wI R.im k R.im 0 f0 g → bz R.im g → Rt (k87 (Ur S 20 g) (nI (k + 1))) P) : ∀ (m a : Nat) (g : Nat → Int32), R.im < a + m → a ≤ R.im → wI R.im k a 0 f0 g → bz R.im g → Rt (f_endless_97 R.K k87 m (Ur S 20 g) (nI k) (nI a)) P
  | 0, a, g, h1, h2, _, _ => by omega
  | m + 1, a, g, h1, h2, hw, hz => by
    have hD0 := hD.1
    have t1 : TS R c nv (Ur S 20 g) := h.u20
    unfold f_endless_97
    rw [t1.i12 hD]
    refine Rt.it (fun w9 => ?_) (fun w9 => ?_)
    · have e : a = R.im := by have := (nI_leI (a := R.im) (b := a) (by omega) (by omega)).mp w9; omega
      subst e
      rw [nI_1]
      exact hk g hw hz
    have hlt : a < R.im := by
      rcases Nat.lt_or_ge a R.im with z | z
      · exact z
      · exact absurd (nI_le z (by omega)) w9
    exact edl107 hD h hkm hlt (fun g2 w2 z2 => edl97 hD h hkm hk m (a + 1) g2 (by omega) (by omega) (wI_row w2) z2) bigN 0 g (by unfold bigN; omega) (Nat.zero_le _) hw hz
theorem edl87 (hD : RDI R) (h : TS R c nv S) {P : Sg → Unit → Prop} (hk : ∀ g : Nat → Int32, wC R.im R.im g → (∀ a b : Nat, a < R.im → b < R.im → eD R S g a b) → Rt (f_endless_175 R.K bigN (Ur S 20 g) 0) P) : ∀ (m k : Nat) (g : Nat → Int32), R.im < k + m → k ≤ R.im → wC R.im k g → (∀ a b : Nat, a < R.im → b < R.im → eD R S g a b) → Rt (f_endless_87 R.K m (Ur S 20 g) (nI k)) P
  | 0, k, g, h1, h2, _, _ => by omega
  | m + 1, k, g, h1, h2, hw, hd => by
    have hD0 := hD.1
    have t1 : TS R c nv (Ur S 20 g) := h.u20
    unfold f_endless_87
    rw [t1.i12 hD]
    refine Rt.it (fun w9 => ?_) (fun w9 => ?_)
    · have e : k = R.im := by have := (nI_leI (a := R.im) (b := k) (by omega) (by omega)).mp w9; omega
      subst e
      exact hk g hw hd
    have hlt : k < R.im := by
      rcases Nat.lt_or_ge k R.im with z | z
      · exact z
      · exact absurd (nI_le z (by omega)) w9
    refine edl97 hD h hlt (fun g2 w2 z2 => edl87 hD h hk m (k + 1) g2 (by omega) (by omega) (wC_s hw w2 hlt) (fun a b ha hb => ⟨z2 a b ha hb, fun e => ?_⟩)) bigN 0 g (by unfold bigN; omega) (Nat.zero_le _) wI_0 (fun a b ha hb => (hd a b ha hb).1)
    exact (hd a b ha hb).2 (Classical.byContradiction (fun q => w2.1 a b ha hb q e))
/-- the table is closed: what lies in an item, and in what lies in it -/
theorem edlW (hD : RDI R) (h : TS R c nv S) (hA : ITA R S) {P : Sg → Unit → Prop} (hk : ∀ g : Nat → Int32, wC R.im R.im g → (∀ a b : Nat, a < R.im → b < R.im → eD R S g a b) → Rt (f_endless_175 R.K bigN (Ur S 20 g) 0) P) : Rt (f_endless R.K S) P := by
  have hD0 := hD.1
  unfold f_endless
  have e : S = Ur S 20 (Zr S 20) := by
    have : va_up (Zr S) 20 (Zr S 20) = Zr S := by
      funext k
      by_cases e : k = 20
      · subst e; rw [va_up_self]
      · rw [va_up_ne _ _ e]
    show S = (Zi S, va_up (Zr S) 20 (Zr S 20), _)
    rw [this]
    rfl
  have := edl2 hD h hA (P := P) (fun g hd => edl87 hD h hk bigN 0 g (by unfold bigN; omega) (Nat.zero_le _) (fun i m j _ _ _ hm => absurd hm (by omega)) hd) bigN 0 (Zr S 20) (by unfold bigN; omega) (Nat.zero_le _) (fun a b ha => absurd ha (by omega))
  rw [← e] at this
  exact this
end EDW
end
-- k7.u.lean.txt
section
section EDF
variable {R : yR} {c nv : Nat} {S : Sg}
/-- of the store, only the items' fields from 19 on have changed -/
def WI (R : yR) (S S1 : Sg) : Prop := (∀ a : Nat, ZF S1 a = ZF S a ∨ ∃ (i : Nat) (gs g1 : List Value), i < R.im ∧ a = R.ws i ∧ ZF S a = .inr (16, gs) ∧ ZF S1 a = .inr (16, g1) ∧ ∀ l : Nat, l < 19 → g1[l]? = gs[l]?) ∧ ZL S1 = ZL S ∧ (∀ j : Nat, j ≠ 3 → j ≠ 4 → Zi S1 j = Zi S j) ∧ Zq S1 = Zq S ∧ Zf S1 = Zf S ∧ Zl S1 = Zl S ∧ ∀ r : Nat, r ≠ 20 → Zr S1 r = Zr S r
theorem WI.u20 {g : Nat → Int32} : WI R S (Ur S 20 g) := ⟨fun _ => Or.inl rfl, rfl, fun _ _ _ => rfl, rfl, rfl, rfl, fun r hr => va_up_ne _ _ hr⟩
theorem WI.w {S1 : Sg} (h : WI R S S1) {i k : Nat} {gs : List Value} {v : Value} (hi : i < R.im) (hk : wF k) (hF : ZF S1 (R.ws i) = .inr (16, gs)) : WI R S (UF S1 (R.ws i) (.inr (16, gs.set k v))) := by
  refine ⟨fun a => ?_, h.2⟩
  by_cases e : a = R.ws i
  · subst e
    rcases h.1 (R.ws i) with q | ⟨j, g0, g1, q1, q2, q3, q4, q5⟩
    · exact Or.inr ⟨i, gs, _, hi, rfl, q.symm.trans hF, ZF_s, fun l hl => List.getElem?_set_ne (hk.ne hl)⟩
    · have ee : g1 = gs := (Prod.mk.inj (Sum.inr.inj (q4.symm.trans hF))).2
      subst ee
      exact Or.inr ⟨i, g0, _, hi, rfl, q3, ZF_s, fun l hl => (List.getElem?_set_ne (hk.ne hl)).trans (q5 l hl)⟩
  · rw [ZF_n e]
    exact h.1 a
theorem WI.ty {S1 : Sg} (h : WI R S S1) {x : Nat} {kd ix : Int32} {o : Option Nat} (q : isTy S1 x kd ix o) : isTy S x kd ix o := by
  obtain ⟨t, q1, q2, q3, q4⟩ := q
  refine ⟨t, ?_, ?_, ?_, ?_⟩
  · unfold tmS at *; rw [← h.2.2.1 19 (by decide) (by decide)]; exact q1
  · rw [← h.2.2.2.1]; exact q2
  · rw [← h.2.1]; exact q3
  · rcases h.1 x with e | ⟨i, gs, g1, _, _, _, e, _⟩
    · rw [← e]; exact q4
    · rw [q4] at e; cases e
theorem WI.ty2 {S1 : Sg} (h : WI R S S1) {x : Nat} {kd ix : Int32} {o : Option Nat} (q : isTy S x kd ix o) : isTy S1 x kd ix o := by
  obtain ⟨t, q1, q2, q3, q4⟩ := q
  refine ⟨t, ?_, ?_, ?_, ?_⟩
  · unfold tmS at *; rw [h.2.2.1 19 (by decide) (by decide)]; exact q1
  · rw [h.2.2.2.1]; exact q2
  · rw [h.2.1]; exact q3
  · rcases h.1 x with e | ⟨i, gs, g1, _, _, e, _⟩
    · rw [e]; exact q4
    · rw [q4] at e; cases e
/-- what lies in an item stays -/
theorem WI.fd {S1 : Sg} (h : WI R S S1) {i x : Nat} (q : fdO R S1 i x) : fdO R S i x := by
  have hr : ∀ {a n : Nat} {k : ClassId} {f : vRw}, ZF S1 a = .inl (k, n, f) → ZF S a = .inl (k, n, f) := fun {a n k f} e => by
    rcases h.1 a with w | ⟨_, gs, g1, _, _, _, w, _⟩
    · rw [← w]; exact e
    · rw [e] at w; cases w
  have hp : ∀ {a : Nat} {ys : List Value}, ZF S1 a = .inr (17, ys) → ZF S a = .inr (17, ys) := fun {a ys} e => by
    rcases h.1 a with w | ⟨_, gs, g1, _, _, _, w, _⟩
    · rw [← w]; exact e
    · rw [e] at w; cases w
  obtain ⟨fs, mn, e1, e2, e3, e4⟩ := q
  have hc : ∃ f0 : List Value, ZF S (R.ws i) = .inr (16, f0) ∧ ∀ l : Nat, l < 19 → fs[l]? = f0[l]? := by
    rcases h.1 (R.ws i) with w | ⟨j, g0, g1, _, _, w1, w2, w3⟩
    · exact ⟨fs, w.symm.trans e1, fun _ _ => rfl⟩
    · have ee : g1 = fs := (Prod.mk.inj (Sum.inr.inj (w2.symm.trans e1))).2
      subst ee
      exact ⟨g0, w1, w3⟩
  obtain ⟨f0, c1, c2⟩ := hc
  refine ⟨f0, mn, c1, (c2 3 (by decide)).symm.trans e2, e3, ?_⟩
  rcases e4 with ⟨y0, ta, k, f, y1, y2, y3⟩ | ⟨y0, vr, k, pa, wa, ta, mk, l, fv, f, y1, y2, y3, y4, y5, y6, y7, y8⟩
  · exact Or.inl ⟨y0, ta, k, f, (c2 10 (by decide)).symm.trans y1, hr y2, y3⟩
  · exact Or.inr ⟨y0, vr, k, pa, wa, ta, mk, l, fv, f, (c2 11 (by decide)).symm.trans y1, hr y2, y3, y4, hp y5, y6, hr y7, y8⟩
theorem WI.fl {S1 : Sg} (h : WI R S S1) {wh x : Int32} : WI R S (flS S1 wh x) := ⟨fun a => by rw [flS_st.2.1]; exact h.1 a, flS_st.1.trans h.2.1, fun j a b => (flS_i a b).trans (h.2.2.1 j a b), flS_st.2.2.2.2.1.trans h.2.2.2.1, flS_fr.2.2.2.2.trans h.2.2.2.2.1, flS_fr.2.2.1.trans h.2.2.2.2.2.1, fun r hr => by rw [flS_fr.2.1]; exact h.2.2.2.2.2.2 r hr⟩
end EDF
end
-- k7.v.lean.txt
section
section EDG
variable {R : yR} {Pz : Int32 → Prop} {c nv : Nat} {S : Sg}
/-- while items' fields from 19 on are told: the table g stays -/
def EI (R : yR) (Pz : Int32 → Prop) (c nv : Nat) (S : Sg) (g : Nat → Int32) (S1 : Sg) : Prop := TS R c nv S1 ∧ ITA R S1 ∧ ROW R S1 ∧ WI R S S1 ∧ Zr S1 20 = g ∧ F20 R Pz S1
theorem F20.w {S1 : Sg} {i k : Nat} {gs : List Value} {v : Value} (h : F20 R Pz S1) (hF : ZF S1 (R.ws i) = .inr (16, gs)) (hl : gs.length = 22) (hv : k ≠ 20 ∨ ∃ u : Int32, v = .int u ∧ Pz u) : F20 R Pz (UF S1 (R.ws i) (.inr (16, gs.set k v))) := fun a ha => by
  obtain ⟨fs, u, h1, h2, h3⟩ := h a ha
  by_cases e : R.ws a = R.ws i
  · rw [e] at h1 ⊢
    have ee : gs = fs := (Prod.mk.inj (Sum.inr.inj (hF.symm.trans h1))).2
    subst ee
    by_cases ek : k = 20
    · subst ek
      rcases hv with hv | ⟨u2, hv, hv2⟩
      · exact absurd rfl hv
      · exact ⟨_, u2, ZF_s, by rw [List.getElem?_set_self (by rw [hl]; decide), hv], hv2⟩
    · exact ⟨_, u, ZF_s, by rw [List.getElem?_set_ne ek]; exact h2, h3⟩
  · exact ⟨fs, u, (ZF_n e).trans h1, h2, h3⟩
theorem EI.w (hD : RDI R) {g : Nat → Int32} {S1 : Sg} (h : EI R Pz c nv S g S1) {i k : Nat} (hi : i < R.im) (hk : wF k) (v : Value) (hv : k ≠ 20 ∨ ∃ u : Int32, v = .int u ∧ Pz u) : ∃ gs : List Value, ZF S1 (R.ws i) = .inr (16, gs) ∧ gs.length = 22 ∧ pV S1 16 (some (R.ws i)) k v = some (UF S1 (R.ws i) (.inr (16, gs.set k v))) ∧ EI R Pz c nv S g (UF S1 (R.ws i) (.inr (16, gs.set k v))) := by
  obtain ⟨h1, h2, h3, h4, h5, h6⟩ := h
  obtain ⟨gs, g1, g2, g3, g4, g5, g6⟩ := itw_ hD h1 hi hk v
  exact ⟨gs, g1, g2, g3, g4, g5 h2, g6 h3, h4.w hi hk g1, h5, h6.w g1 g2 hv⟩
theorem RDI.lt (hD : RDI R) {i j : Nat} (hij : i < j) (hj : j < R.im) : R.ws i < R.ws j := by
  obtain ⟨_, ⟨z1, _⟩, _⟩ := hD.2.2.2.2 i (by omega)
  have := (iv_m.mp z1).2
  have := (hD.2.2.1 (i + 1) j (by omega) (by omega)).2
  omega
/-- the first k items have their end told -/
def EF (R : yR) (g : Nat → Int32) (k : Nat) (S1 : Sg) : Prop := ∀ a : Nat, a < k → ∃ (fs : List Value) (v : Int32), ZF S1 (R.ws a) = .inr (16, fs) ∧ fs[19]? = some (.int 0) ∧ fs[21]? = some (.int v) ∧ (v = 0 ∨ v = 1) ∧ (v = 0 → noC R.im g a)
theorem EF.w (hD : RDI R) {g : Nat → Int32} {S1 : Sg} {i : Nat} {x : va_E} (hi : i < R.im) (h : EF R g i S1) : EF R g i (UF S1 (R.ws i) x) := fun a ha => by
  obtain ⟨fs, v, h1, h2⟩ := h a ha
  exact ⟨fs, v, (ZF_n (fun e => by have := hD.lt ha hi; omega)).trans h1, h2⟩
theorem edl205 (hD : RDI R) {g : Nat → Int32} {P : Sg → Unit → Prop} {k175 : Sg → Int32 → Option (Sg × Unit)} {i : Nat} (hi : i < R.im) (hk : ∀ S2 : Sg, EI R Pz c nv S g S2 → EF R g (i + 1) S2 → Rt (k175 S2 (nI (i + 1))) P) : ∀ (m j : Nat) {S1 : Sg}, R.im < j + m → j ≤ R.im → EI R Pz c nv S g S1 → EF R g i S1 → (∃ (fs : List Value) (v : Int32), ZF S1 (R.ws i) = .inr (16, fs) ∧ fs[21]? = some (.int v) ∧ (v = 0 ∨ v = 1) ∧ (v = 0 → ¬ hB g i i ∧ ∀ b : Nat, b < j → hB g i b → ¬ hB g b b)) → Rt (f_endless_205 R.K k175 m S1 (nI i) (nI j)) P
  | 0, j, _, h1, h2, _, _, _ => by omega
  | m + 1, j, S1, h1, h2, q1, f1, hd => by
    have hD0 := hD.1
    obtain ⟨fs, v, d1, d2, d3, d4⟩ := hd
    unfold f_endless_205
    rw [q1.1.i12 hD]
    refine Rt.it (fun w9 => ?_) (fun w9 => ?_)
    · have e : j = R.im := by have := (nI_leI (a := R.im) (b := j) (by omega) (by omega)).mp w9; omega
      subst e
      obtain ⟨gs, g1, g2, g3, g4⟩ := q1.w hD hi (k := 19) (Or.inl rfl) (.int 0) (Or.inl (by decide))
      have ee : gs = fs := (Prod.mk.inj (Sum.inr.inj (g1.symm.trans d1))).2
      subst ee
      refine Rt.bd (hD.it q1.1 hi) (Rt.bd g3 ?_)
      rw [nI_1]
      refine hk _ g4 (fun a ha => ?_)
      by_cases e : a = i
      · subst e
        exact ⟨_, v, ZF_s, by rw [List.getElem?_set_self (by rw [g2]; decide)], by rw [List.getElem?_set_ne (by decide)]; exact d2, d3, d4⟩
      · exact (f1.w hD hi (x := .inr (16, gs.set 19 (.int 0)))) a (by omega)
    have hlt : j < R.im := by
      rcases Nat.lt_or_ge j R.im with z | z
      · exact z
      · exact absurd (nI_le z (by omega)) w9
    unfold f_endless_251
    rw [nI_ij70, nI_ij70, nI_1]
    refine Rt.bd (rI_n (show 70 * i + j < rlen 20 by show _ < 4900; omega) (by decide)) ?_
    rw [q1.2.2.2.2.1]
    have hsame : (¬ hB g i j ∨ ¬ hB g j j) → Rt (f_endless_205 R.K k175 m S1 (nI i) (nI (j + 1))) P := fun hn => edl205 hD hi hk m (j + 1) (by omega) (by omega) q1 f1 ⟨fs, v, d1, d2, d3, fun z => ⟨(d4 z).1, fun b hb q => by
      by_cases e : b = j
      · subst e; exact hn.elim (fun z => absurd q z) id
      · exact (d4 z).2 b (by omega) q⟩⟩
    refine Rt.it (fun e => hsame (Or.inl (fun q => q e))) (fun e => ?_)
    refine Rt.bd (rI_n (show 70 * j + j < rlen 20 by show _ < 4900; omega) (by decide)) ?_
    rw [q1.2.2.2.2.1]
    refine Rt.it (fun e2 => hsame (Or.inr (fun q => q e2))) (fun e2 => ?_)
    obtain ⟨gs, g1, g2, g3, g4⟩ := q1.w hD hi (k := 21) (Or.inr (Or.inr rfl)) (.int 1) (Or.inl (by decide))
    refine Rt.bd (hD.it q1.1 hi) (Rt.bd (v := UF S1 (R.ws i) (.inr (16, gs.set 21 (.int 1)))) (by unfold pZ; rw [if_pos (Or.inr rfl)]; exact g3) ?_)
    exact edl205 hD hi hk m (j + 1) (by omega) (by omega) g4 (f1.w hD hi) ⟨_, 1, ZF_s, by rw [List.getElem?_set_self (by rw [g2]; decide)], Or.inr rfl, fun z => absurd z (by decide)⟩
theorem edl175 (hD : RDI R) {g : Nat → Int32} (hz : bz R.im g) : ∀ (m i : Nat) {S1 : Sg}, R.im < i + m → i ≤ R.im → EI R Pz c nv S g S1 → EF R g i S1 → Rt (f_endless_175 R.K m S1 (nI i)) (fun S2 _ => EI R Pz c nv S g S2 ∧ EF R g R.im S2)
  | 0, i, _, h1, h2, _, _ => by omega
  | m + 1, i, S1, h1, h2, q1, f1 => by
    have hD0 := hD.1
    unfold f_endless_175
    rw [q1.1.i12 hD]
    refine Rt.it (fun w9 => ?_) (fun w9 => ?_)
    · have e : i = R.im := by have := (nI_leI (a := R.im) (b := i) (by omega) (by omega)).mp w9; omega
      subst e
      exact Rt.rt ⟨q1, f1⟩
    have hlt : i < R.im := by
      rcases Nat.lt_or_ge i R.im with z | z
      · exact z
      · exact absurd (nI_le z (by omega)) w9
    rw [nI_ij70]
    obtain ⟨gs, g1, g2, g3, g4⟩ := q1.w hD hlt (k := 21) (Or.inr (Or.inr rfl)) (.int (g (70 * i + i))) (Or.inl (by decide))
    refine Rt.bd (hD.it q1.1 hlt) (Rt.bd (rI_n (show 70 * i + i < rlen 20 by show _ < 4900; omega) (by decide)) ?_)
    rw [q1.2.2.2.2.1]
    refine Rt.bd (v := UF S1 (R.ws i) (.inr (16, gs.set 21 (.int (g (70 * i + i)))))) (by unfold pZ; rw [if_pos (hz i i hlt hlt)]; exact g3) ?_
    exact edl205 hD hlt (fun S2 q2 f2 => edl175 hD hz m (i + 1) (by omega) (by omega) q2 f2) bigN 0 (by unfold bigN; omega) (Nat.zero_le _) g4 (f1.w hD hlt) ⟨_, _, ZF_s, by rw [List.getElem?_set_self (by rw [g2]; decide)], hz i i hlt hlt, fun z => ⟨fun q => q z, fun b hb => absurd hb (by omega)⟩⟩
/-- endless -/
theorem edl_ (hD : RDI R) (h : TS R c nv S) (hA : ITA R S) (hR : ROW R S) (hF : F20 R Pz S) : Rt (f_endless R.K S) (fun S2 _ => ∃ g : Nat → Int32, wC R.im R.im g ∧ (∀ a b : Nat, a < R.im → b < R.im → eD R S g a b) ∧ EI R Pz c nv S g S2 ∧ EF R g R.im S2) := by
  have hD0 := hD.1
  refine edlW hD h hA (fun g hw hd => ?_)
  exact (edl175 hD (fun a b ha hb => (hd a b ha hb).1) bigN 0 (by unfold bigN; omega) (Nat.zero_le _) ⟨h.u20, fun k hk => (hA k hk).vz (p := 0) (q := 0) (S2 := Ur S 20 g) VZ.u20, hR, WI.u20, Zr_s, hF⟩ (fun a ha => absurd ha (by omega))).mo (fun S2 _ q => ⟨g, hw, hd, q⟩)
end EDG
end
-- k7.w.lean.txt
section
/-- a sum -/
def psN (w : Nat → Nat) : Nat → Nat
  | 0 => 0
  | k + 1 => psN w k + w k
theorem psN_cg {w w2 : Nat → Nat} : ∀ {n : Nat}, (∀ k : Nat, k < n → w k = w2 k) → psN w n = psN w2 n
  | 0, _ => rfl
  | n + 1, h => by
    show psN w n + w n = psN w2 n + w2 n
    rw [psN_cg (n := n) (fun k hk => h k (by omega)), h n (by omega)]
def psU (w : Nat → Nat) (k v : Nat) : Nat → Nat := fun l => if l = k then v else w l
theorem psU_s {w : Nat → Nat} {k v : Nat} : psU w k v k = v := if_pos rfl
theorem psU_n {w : Nat → Nat} {k v l : Nat} (h : l ≠ k) : psU w k v l = w l := if_neg h
/-- item j's size is told -/
def iSz (R : yR) (S1 : Sg) (j s : Nat) : Prop := ∃ fs : List Value, ZF S1 (R.ws j) = .inr (16, fs) ∧ fs[19]? = some (.int (nI s)) ∧ 1 ≤ s ∧ s ≤ 1000
/-- the size of the type x -/
def tySz (R : yR) (S1 : Sg) (x s : Nat) : Prop := ∃ (kd ix : Int32) (o : Option Nat), isTy S1 x kd ix o ∧ (((kd = 3 ∨ kd = 4) ∧ ∃ j : Nat, j < R.im ∧ ix = nI j ∧ R.ik j ≠ 12 ∧ iSz R S1 j s) ∨ (kd ≠ 3 ∧ kd ≠ 4 ∧ s = 1))
theorem tySz.ps {R : yR} {S1 : Sg} {x s : Nat} (h : tySz R S1 x s) : 1 ≤ s ∧ s ≤ 1000 := by
  obtain ⟨kd, ix, o, _, h | h⟩ := h
  · obtain ⟨_, j, _, _, _, fs, _, _, h1, h2⟩ := h; exact ⟨h1, h2⟩
  · have := h.2.2; omega
/-- sizes that are told stay -/
def SM (R : yR) (S1 S2 : Sg) : Prop := (∀ j s : Nat, j < R.im → iSz R S1 j s → iSz R S2 j s) ∧ ∀ (x : Nat) (kd ix : Int32) (o : Option Nat), isTy S1 x kd ix o → isTy S2 x kd ix o
theorem SM.rf {R : yR} {S1 : Sg} : SM R S1 S1 := ⟨fun _ _ _ h => h, fun _ _ _ _ h => h⟩
theorem SM.tr {R : yR} {S1 S2 S3 : Sg} (h : SM R S1 S2) (g : SM R S2 S3) : SM R S1 S3 := ⟨fun j s hj q => g.1 j s hj (h.1 j s hj q), fun x kd ix o q => g.2 x kd ix o (h.2 x kd ix o q)⟩
theorem tySz.mo {R : yR} {S1 S2 : Sg} {x s : Nat} (h : SM R S1 S2) (q : tySz R S1 x s) : tySz R S2 x s := by
  obtain ⟨kd, ix, o, q1, q2⟩ := q
  refine ⟨kd, ix, o, h.2 _ _ _ _ q1, q2.imp (fun ⟨a, j, b1, b2, b3, b4⟩ => ⟨a, j, b1, b2, b3, h.1 j s b1 b4⟩) id⟩
/-- what an item's size says: its fields, or the parts of each of its variants, have room in it -/
def EqS (R : yR) (S S1 : Sg) (a s : Nat) : Prop := ∃ (fs : List Value) (mn : Nat), ZF S (R.ws a) = .inr (16, fs) ∧ fs[3]? = some (.int (nI mn)) ∧ 1 ≤ mn ∧ mn ≤ 12 ∧
  ((R.ik a = 10 ∧ ∃ (ta : Nat) (f : Nat → Option Nat) (w : Nat → Nat), fs[10]? = some (.ref ta) ∧ ZF S ta = .inl (R.K.1 4, 13, .inr (.inr (.inr (.inr f)))) ∧ (∀ k : Nat, k < mn → ∃ x : Nat, f k = some x ∧ tySz R S1 x (w k)) ∧ (psN w mn ≤ s ∨ s = 1000)) ∨
   (R.ik a = 11 ∧ ∃ (vr : Nat) (fv : Nat → Option Nat), fs[11]? = some (.ref vr) ∧ ZF S vr = .inl (R.K.1 13, 13, .inr (.inr (.inr (.inr fv)))) ∧ ∀ k : Nat, k < mn → ∃ (pa mk : Nat) (f : Nat → Option Nat) (w : Nat → Nat), fv k = some pa ∧ paY R S pa mk f ∧ (∀ l : Nat, l < mk → ∃ x : Nat, f l = some x ∧ tySz R S1 x (w l)) ∧ (1 + psN w mk ≤ s ∨ s = 1000)))
theorem EqS.mo {R : yR} {S S1 S2 : Sg} {a s : Nat} (h : SM R S1 S2) (q : EqS R S S1 a s) : EqS R S S2 a s := by
  obtain ⟨fs, mn, q1, q2, q3, q4, q5⟩ := q
  refine ⟨fs, mn, q1, q2, q3, q4, ?_⟩
  rcases q5 with ⟨k1, ta, f, w, k2, k3, k4, k5⟩ | ⟨k1, vr, fv, k2, k3, k4⟩
  · exact Or.inl ⟨k1, ta, f, w, k2, k3, fun k hk => by obtain ⟨x, x1, x2⟩ := k4 k hk; exact ⟨x, x1, x2.mo h⟩, k5⟩
  · refine Or.inr ⟨k1, vr, fv, k2, k3, fun k hk => ?_⟩
    obtain ⟨pa, mk, f, w, j1, j2, j3, j4⟩ := k4 k hk
    exact ⟨pa, mk, f, w, j1, j2, fun l hl => by obtain ⟨x, x1, x2⟩ := j3 l hl; exact ⟨x, x1, x2.mo h⟩, j4⟩
/-- rows and variants' parts are as they were -/
theorem WI.ro {R : yR} {S S1 : Sg} (h : WI R S S1) {a n : Nat} {k : ClassId} {f : vRw} (e : ZF S1 a = .inl (k, n, f)) : ZF S a = .inl (k, n, f) := by
  rcases h.1 a with w | ⟨_, gs, g1, _, _, _, w, _⟩
  · rw [← w]; exact e
  · rw [e] at w; cases w
theorem WI.pa {R : yR} {S S1 : Sg} (h : WI R S S1) {a : Nat} {ys : List Value} (e : ZF S1 a = .inr (17, ys)) : ZF S a = .inr (17, ys) := by
  rcases h.1 a with w | ⟨_, gs, g1, _, _, _, w, _⟩
  · rw [← w]; exact e
  · rw [e] at w; cases w
theorem WI.io {R : yR} {S S1 : Sg} (h : WI R S S1) {i : Nat} {fs : List Value} (e : ZF S1 (R.ws i) = .inr (16, fs)) : ∃ f0 : List Value, ZF S (R.ws i) = .inr (16, f0) ∧ ∀ l : Nat, l < 19 → fs[l]? = f0[l]? := by
  rcases h.1 (R.ws i) with w | ⟨j, g0, g1, _, _, w1, w2, w3⟩
  · exact ⟨fs, w.symm.trans e, fun _ _ => rfl⟩
  · have ee : g1 = fs := (Prod.mk.inj (Sum.inr.inj (w2.symm.trans e))).2
    subst ee
    exact ⟨g0, w1, w3⟩
theorem vTyn.wi {R : yR} {S S1 : Sg} (h : WI R S S1) : ∀ {n x : Nat}, vTyn S1 n x → vTyn S n x
  | 0, _, q => q
  | n + 1, x, q => by
    obtain ⟨kd, ix, o, q1, q2⟩ := q
    refine ⟨kd, ix, o, h.ty q1, q2.imp id (fun ⟨a, u, b1, b2⟩ => ⟨a, u, b1, vTyn.wi h b2⟩)⟩
theorem vTy.wi {R : yR} {S S1 : Sg} (h : WI R S S1) {x : Nat} (q : vTy S1 x) : vTy S x := by
  obtain ⟨n, q⟩ := q; exact ⟨n, vTyn.wi h q⟩
theorem paY.wi {R : yR} {S S1 : Sg} (h : WI R S S1) {pa mk : Nat} {f : Nat → Option Nat} (q : paY R S1 pa mk f) : paY R S pa mk f := by
  refine ⟨q.1, ?_⟩
  rcases q.2 with ⟨q1, q2⟩ | ⟨wa, ta, q1, q2, q3⟩
  · exact Or.inl ⟨h.pa q1, q2⟩
  · exact Or.inr ⟨wa, ta, h.pa q1, q2, q3.1, h.ro q3.2.1, fun k hk => by obtain ⟨x, x1, x2⟩ := q3.2.2 k hk; exact ⟨x, x1, vTy.wi h x2⟩⟩
/-- the items' sizes as far as they are told, the table of what lies in what -/
def SI (R : yR) (Pz : Int32 → Prop) (c nv : Nat) (S : Sg) (g : Nat → Int32) (S1 : Sg) : Prop := EI R Pz c nv S g S1 ∧ ∀ a : Nat, a < R.im → ∃ (fs : List Value) (s : Nat) (v : Int32), ZF S1 (R.ws a) = .inr (16, fs) ∧ fs[19]? = some (.int (nI s)) ∧ s ≤ 1000 ∧ fs[21]? = some (.int v) ∧ (v = 0 ∨ v = 1) ∧ (v = 0 → noC R.im g a) ∧ (s ≠ 0 → EqS R S S1 a s)
/-- behind the size of an item that has n below it: those with more are as they were -/
def SFr (R : yR) (g : Nat → Int32) (n : Nat) (S1 S2 : Sg) : Prop := ∀ a : Nat, a < R.im → n ≤ hN g a R.im → ZF S2 (R.ws a) = ZF S1 (R.ws a)
theorem SFr.rf {R : yR} {g : Nat → Int32} {n : Nat} {S1 : Sg} : SFr R g n S1 S1 := fun _ _ _ => rfl
theorem SFr.tr {R : yR} {g : Nat → Int32} {n : Nat} {S1 S2 S3 : Sg} (h : SFr R g n S1 S2) (q : SFr R g n S2 S3) : SFr R g n S1 S3 := fun a ha hn => (q a ha hn).trans (h a ha hn)
theorem SFr.mo {R : yR} {g : Nat → Int32} {n m : Nat} {S1 S2 : Sg} (h : SFr R g n S1 S2) (q : n ≤ m) : SFr R g m S1 S2 := fun a ha hn => h a ha (by omega)
section SZO
variable {R : yR} {Pz : Int32 → Prop} {c nv : Nat} {S : Sg} {g : Nat → Int32}
theorem RDI.ne (hD : RDI R) {i j : Nat} (hi : i < R.im) (hj : j < R.im) (h : i ≠ j) : R.ws i ≠ R.ws j := by
  rcases Nat.lt_or_ge i j with z | z
  · have := hD.lt z hj; omega
  · have := hD.lt (show j < i by omega) hi; omega
theorem EF.si {S1 : Sg} (h : EI R Pz c nv S g S1) (f : EF R g R.im S1) : SI R Pz c nv S g S1 := ⟨h, fun a ha => by
  obtain ⟨fs, v, h1, h2, h3, h4, h5⟩ := f a ha
  exact ⟨fs, 0, v, h1, h2, by omega, h3, h4, h5, fun z => absurd rfl z⟩⟩
/-- what the size of item i gives -/
def SZQ (R : yR) (Pz : Int32 → Prop) (c nv : Nat) (S : Sg) (g : Nat → Int32) (i : Nat) (S1 S2 : Sg) (r : Int32) : Prop := SI R Pz c nv S g S2 ∧ SM R S1 S2 ∧ SFr R g (hN g i R.im + 1) S1 S2 ∧ ∃ s : Nat, r = nI s ∧ iSz R S2 i s
/-- an item's size is told -/
theorem szi126 (hD : RDI R) {V : Sg → Option Nat → Option (Sg × Int32)} {S1 : Sg} {i s : Nat} (h : SI R Pz c nv S g S1) (hi : i < R.im) (hs : s ≤ 1000) (hs1 : 1 ≤ s) (hq : EqS R S S1 i s) (h0 : ∃ fs : List Value, ZF S1 (R.ws i) = .inr (16, fs) ∧ fs[19]? = some (.int 0)) : Rt (f_sizeOfItem_126 R.K V S1 (some (R.ws i)) (nI s) (some (R.ws i))) (SZQ R Pz c nv S g i S1) := by
  obtain ⟨gs, g1, g2, g3, g4⟩ := h.1.w hD hi (k := 19) (Or.inl rfl) (.int (nI s)) (Or.inl (by decide))
  obtain ⟨f0, z1, z2⟩ := h0
  have e0 : f0 = gs := (Prod.mk.inj (Sum.inr.inj (z1.symm.trans g1))).2
  subst e0
  have hsm : SM R S1 (UF S1 (R.ws i) (.inr (16, f0.set 19 (.int (nI s))))) := ⟨fun j t hj q => by
    obtain ⟨fs, q1, q2, q3, q4⟩ := q
    by_cases e : j = i
    · subst e
      have e1 : f0 = fs := (Prod.mk.inj (Sum.inr.inj (g1.symm.trans q1))).2
      subst e1
      have := nI_ij (b := 0) (Value.int.inj (Option.some.inj (q2.symm.trans z2))) (by omega) (by omega)
      omega
    · exact ⟨fs, (ZF_n (hD.ne hj hi e)).trans q1, q2, q3, q4⟩, fun x kd ix o q => g4.2.2.2.1.ty2 (h.1.2.2.2.1.ty q)⟩
  have hits : iSz R (UF S1 (R.ws i) (.inr (16, f0.set 19 (.int (nI s))))) i s := ⟨_, ZF_s, by rw [List.getElem?_set_self (by rw [g2]; decide)], hs1, hs⟩
  unfold f_sizeOfItem_126
  refine Rt.bd g3 (Rt.bd (oI_mk (fs := f0.set 19 (.int (nI s))) (v := nI s) (g4.1.L (hD.ob h.1.1 hi).1) ZF_s (by rw [List.getElem?_set_self (by rw [g2]; decide)])) (Rt.rt ⟨⟨g4, fun a ha => ?_⟩, hsm, fun a ha hn => ?_, s, rfl, hits⟩))
  · obtain ⟨fs, s9, v, h1, h2, h3, h4, h5, h6, h7⟩ := h.2 a ha
    by_cases e : a = i
    · subst e
      have ee : f0 = fs := (Prod.mk.inj (Sum.inr.inj (g1.symm.trans h1))).2
      subst ee
      exact ⟨_, s, v, ZF_s, by rw [List.getElem?_set_self (by rw [g2]; decide)], hs, by rw [List.getElem?_set_ne (by decide)]; exact h4, h5, h6, fun _ => hq.mo hsm⟩
    · exact ⟨fs, s9, v, (ZF_n (hD.ne ha hi e)).trans h1, h2, h3, h4, h5, h6, fun z => (h7 z).mo hsm⟩
  · exact ZF_n (fun e => by
      by_cases e2 : a = i
      · subst e2; omega
      · exact hD.ne ha hi e2 e)
/-- sizeOf, of what lies in item i -/
theorem szo_ (hD : RDI R) (hc : c ≤ 1990) (hW : wC R.im R.im g) (hE : ∀ a b : Nat, a < R.im → b < R.im → eD R S g a b) {V : Sg → Option Nat → Option (Sg × Int32)} {i x : Nat} {S1 : Sg} (hV : ∀ (j : Nat) (S1 : Sg), j < R.im → R.ik j ≠ 12 → noC R.im g j → hN g j R.im < hN g i R.im → SI R Pz c nv S g S1 → Rt (V S1 (some (R.ws j))) (SZQ R Pz c nv S g j S1)) (h : SI R Pz c nv S g S1) (hi : i < R.im) (hik : R.ik i ≠ 12) (hno : noC R.im g i) (hx : fdO R S1 i x) {kd ix : Int32} {o : Option Nat} (hty : isTy S1 x kd ix o) : Rt (f_sizeOf R.K V S1 (some x)) (fun S2 r => SI R Pz c nv S g S2 ∧ SM R S1 S2 ∧ SFr R g (hN g i R.im) S1 S2 ∧ ∃ s : Nat, r = nI s ∧ tySz R S2 x s) := by
  have hok := (h.1.1.at hc hty).1
  have hty2 := hty
  obtain ⟨t, h1, h2, h3, h4⟩ := hty2
  have h16 : (kd = 3 ∨ kd = 4) → Rt (f_sizeOf_16 R.K V S1 (some x)) (fun S2 r => SI R Pz c nv S g S2 ∧ SM R S1 S2 ∧ SFr R g (hN g i R.im) S1 S2 ∧ ∃ s : Nat, r = nI s ∧ tySz R S2 x s) := fun hk => by
    obtain ⟨j, hj, ej, hjk⟩ : ∃ j : Nat, j < R.im ∧ ix = nI j ∧ R.ik j ≠ 12 := by
      rcases hok with ⟨w, _⟩ | ⟨_, ⟨j, w1, w2, w3⟩, _⟩ | ⟨_, ⟨j, w1, w2, w3⟩, _⟩ | ⟨w, _⟩
      · have w : kd = 0 ∨ kd = 1 ∨ kd = 2 ∨ kd = 8 := w
        rcases hk with e | e <;> rw [e] at w <;> exact absurd w (by decide)
      · exact ⟨j, w1, w2, by rw [w3]; decide⟩
      · exact ⟨j, w1, w2, by rw [w3]; decide⟩
      · have w : kd = 5 ∨ kd = 6 ∨ kd = 7 := w
        rcases hk with e | e <;> rw [e] at w <;> exact absurd w (by decide)
    have hb : hB g i j := fun e => by
      rcases (hE i j hi hj).2 e with w | w | w
      · exact hik w
      · exact hjk w
      · exact w x (h.1.2.2.2.1.fd hx) kd o (by rw [← ej]; exact h.1.2.2.2.1.ty hty) hk
    obtain ⟨d1, d2⟩ := noC_dn hW hi hj hno hb
    unfold f_sizeOf_16 f_sizeOf_33
    refine Rt.bd (oI_mk h3 h4 (v := ix) rfl) ?_
    rw [ej] at hty ⊢
    refine Rt.bd (hD.it h.1.1 hj) (Rt.bn (hV j S1 hj hjk d1 d2 h) (fun S2 r q => Rt.rt ?_))
    obtain ⟨q1, q2, q3, s, q4, q5⟩ := q
    exact ⟨q1, q2, q3.mo d2, s, q4, kd, _, o, q2.2 _ _ _ _ hty, Or.inl ⟨hk, j, hj, rfl, hjk, q5⟩⟩
  unfold f_sizeOf f_sizeOf_33
  refine Rt.bd (oI_mk h3 h4 (v := kd) rfl) (Rt.it (fun w => h16 (Or.inl w)) (fun w => ?_))
  exact Rt.bd (oI_mk h3 h4 (v := kd) rfl) (Rt.it (fun w => h16 (Or.inr w)) (fun w2 => Rt.rt ⟨h, SM.rf, SFr.rf, 1, rfl, kd, ix, o, hty, Or.inr ⟨w, w2, rfl⟩⟩))
end SZO
end
-- k7.x.lean.txt
section
section SZI
variable {R : yR} {Pz : Int32 → Prop} {c nv : Nat} {S : Sg} {g : Nat → Int32}
/-- a struct has a field, an enum a variant -/
theorem RDI.m1 (hD : RDI R) {i mn : Nat} (hi : i < R.im) (hik : R.ik i ≠ 12) (hmn : mn ≤ 12) (h : ∀ fs : List Value, ZF R.S (R.ws i) = .inr (16, fs) → fs[3]? = some (.int (nI mn))) : 1 ≤ mn := by
  obtain ⟨_, ⟨_, _, _, mn9, na9, g9, _, _, c1, _, c2⟩, ⟨fs8, b1, b2⟩, _⟩ := hD.2.2.2.2 i hi
  have hb := h fs8 b1
  rcases c2 with ⟨wa, ta, q', f, c3, c4, _⟩ | ⟨vr, q', f, c3, c4, _⟩ | ⟨lv, wa, ta, pa, lf, lo, q', va, b, bl, rs, f, gl, c3, _⟩
  · have e := (Prod.mk.inj (Sum.inr.inj (b1.symm.trans c3))).2
    subst e
    have := nI_ij (Value.int.inj (Option.some.inj hb)) (by omega) (by omega)
    have := c4.2; omega
  · have e := (Prod.mk.inj (Sum.inr.inj (b1.symm.trans c3))).2
    subst e
    have := nI_ij (Value.int.inj (Option.some.inj hb)) (by omega) (by omega)
    have := c4.2; omega
  · have e := (Prod.mk.inj (Sum.inr.inj (b1.symm.trans c3))).2
    subst e
    exact absurd (Value.int.inj (Option.some.inj b2)).symm hik
/-- the size of item i, as far as its first k fields or variants tell it -/
def PrS (R : yR) (S S1 : Sg) (i k s : Nat) : Prop := ∃ fs : List Value, ZF S (R.ws i) = .inr (16, fs) ∧ s ≤ 13000 * k ∧
  ((R.ik i = 10 ∧ ∃ (ta : Nat) (f : Nat → Option Nat) (w : Nat → Nat), fs[10]? = some (.ref ta) ∧ ZF S ta = .inl (R.K.1 4, 13, .inr (.inr (.inr (.inr f)))) ∧ (∀ l : Nat, l < k → ∃ x : Nat, f l = some x ∧ tySz R S1 x (w l)) ∧ s = psN w k) ∨
   (R.ik i = 11 ∧ ∃ (vr : Nat) (fv : Nat → Option Nat), fs[11]? = some (.ref vr) ∧ ZF S vr = .inl (R.K.1 13, 13, .inr (.inr (.inr (.inr fv)))) ∧ (1 ≤ k → 1 ≤ s) ∧ ∀ l : Nat, l < k → ∃ (pa mk : Nat) (f : Nat → Option Nat) (w : Nat → Nat), fv l = some pa ∧ paY R S pa mk f ∧ (∀ l2 : Nat, l2 < mk → ∃ x : Nat, f l2 = some x ∧ tySz R S1 x (w l2)) ∧ 1 + psN w mk ≤ s))
theorem PrS.mo {S1 S2 : Sg} {i k s : Nat} (h : SM R S1 S2) (q : PrS R S S1 i k s) : PrS R S S2 i k s := by
  obtain ⟨fs, q1, q0, q2⟩ := q
  refine ⟨fs, q1, q0, ?_⟩
  rcases q2 with ⟨k1, ta, f, w, k2, k3, k4, k5⟩ | ⟨k1, vr, fv, k2, k3, k5, k4⟩
  · exact Or.inl ⟨k1, ta, f, w, k2, k3, fun k hk => by obtain ⟨x, x1, x2⟩ := k4 k hk; exact ⟨x, x1, x2.mo h⟩, k5⟩
  · refine Or.inr ⟨k1, vr, fv, k2, k3, k5, fun k hk => ?_⟩
    obtain ⟨pa, mk, f, w, j1, j2, j3, j4⟩ := k4 k hk
    exact ⟨pa, mk, f, w, j1, j2, fun l hl => by obtain ⟨x, x1, x2⟩ := j3 l hl; exact ⟨x, x1, x2.mo h⟩, j4⟩
theorem psN_1 {w : Nat → Nat} : ∀ {n : Nat}, 1 ≤ n → (∀ k : Nat, k < n → 1 ≤ w k) → 1 ≤ psN w n
  | 0, h, _ => absurd h (by omega)
  | n + 1, _, h => by
    show 1 ≤ psN w n + w n
    have := h n (by omega); omega
theorem psN_up {w : Nat → Nat} {k v : Nat} : psN (psU w k v) (k + 1) = psN w k + v := by
  show psN (psU w k v) k + psU w k v k = _
  rw [psU_s, psN_cg (w2 := w) (fun l hl => psU_n (by omega))]
theorem szEnd (hD : RDI R) {V : Sg → Option Nat → Option (Sg × Int32)} {S1 : Sg} {i s mn : Nat} (h : SI R Pz c nv S g S1) (hi : i < R.im) (h0 : ∃ fs : List Value, ZF S1 (R.ws i) = .inr (16, fs) ∧ fs[19]? = some (.int 0)) (hm1 : 1 ≤ mn) (hmn : mn ≤ 12) (hm3 : ∀ fs : List Value, ZF S (R.ws i) = .inr (16, fs) → fs[3]? = some (.int (nI mn))) (hp : PrS R S S1 i mn s) : Rt (if nI s ≤ 1000 then (f_sizeOfItem_126 R.K V S1 (some (R.ws i)) (nI s) (some (R.ws i))) else (f_sizeOfItem_126 R.K V S1 (some (R.ws i)) 1000 (some (R.ws i)))) (SZQ R Pz c nv S g i S1) := by
  obtain ⟨fs, q1, q0, q2⟩ := hp
  have hq : ∀ s2 : Nat, s ≤ s2 ∨ s2 = 1000 → EqS R S S1 i s2 := fun s2 hs => by
    refine ⟨fs, mn, q1, hm3 _ q1, hm1, hmn, ?_⟩
    rcases q2 with ⟨k1, ta, f, w, k2, k3, k4, k5⟩ | ⟨k1, vr, fv, k2, k3, _, k4⟩
    · exact Or.inl ⟨k1, ta, f, w, k2, k3, k4, by omega⟩
    · refine Or.inr ⟨k1, vr, fv, k2, k3, fun k hk => ?_⟩
      obtain ⟨pa, mk, f, w, j1, j2, j3, j4⟩ := k4 k hk
      exact ⟨pa, mk, f, w, j1, j2, j3, by omega⟩
  have hs1 : 1 ≤ s := by
    rcases q2 with ⟨k1, ta, f, w, k2, k3, k4, k5⟩ | ⟨k1, vr, fv, k2, k3, k5, _⟩
    · rw [k5]; exact psN_1 hm1 (fun k hk => by obtain ⟨x, _, x2⟩ := k4 k hk; exact x2.ps.1)
    · exact k5 hm1
  refine Rt.it (fun w => ?_) (fun w => ?_)
  · have := (nI_leI (a := s) (b := 1000) (by omega) (by omega)).mp w
    exact szi126 hD h hi this hs1 (hq s (Or.inl (Nat.le_refl _))) h0
  · exact szi126 hD (s := 1000) h hi (Nat.le_refl _) (by omega) (hq 1000 (Or.inr rfl)) h0
theorem szi16 (hD : RDI R) (hc : c ≤ 1990) (hW : wC R.im R.im g) (hE : ∀ a b : Nat, a < R.im → b < R.im → eD R S g a b) {V : Sg → Option Nat → Option (Sg × Int32)} {i : Nat} (hV : ∀ (j : Nat) (S1 : Sg), j < R.im → R.ik j ≠ 12 → noC R.im g j → hN g j R.im < hN g i R.im → SI R Pz c nv S g S1 → Rt (V S1 (some (R.ws j))) (SZQ R Pz c nv S g j S1)) (hi : i < R.im) (hik : R.ik i ≠ 12) (hno : noC R.im g i) {mn : Nat} (hm1 : 1 ≤ mn) (hmn : mn ≤ 12) (hm3 : ∀ fs : List Value, ZF R.S (R.ws i) = .inr (16, fs) → fs[3]? = some (.int (nI mn))) {S0 : Sg} (h0 : ∃ fs : List Value, ZF S0 (R.ws i) = .inr (16, fs) ∧ fs[19]? = some (.int 0)) : ∀ (m k s : Nat) {S1 : Sg}, mn < k + m → k ≤ mn → PrS R S S1 i k s → SI R Pz c nv S g S1 → SM R S0 S1 → SFr R g (hN g i R.im) S0 S1 → Rt (f_sizeOfItem_16 R.K V m S1 (some (R.ws i)) (nI s) (nI k)) (SZQ R Pz c nv S g i S0)
  | 0, k, s, _, h1, h2, _, _, _, _ => by omega
  | m + 1, k, s, S1, h1, h2, hs, h, hsm, hsf => by
    obtain ⟨b1, b2, b3, fs9, gs9, b4, b5, b6, b7, b8, b9, b10, b11⟩ := hD.ob h.1.1 hi
    have e3 : gs9[3]? = some (.int (nI mn)) := (b8 3 rfl).trans (hm3 _ b4)
    have h01 : ∃ fs : List Value, ZF S1 (R.ws i) = .inr (16, fs) ∧ fs[19]? = some (.int 0) := by
      obtain ⟨fs, z1, z2⟩ := h0
      exact ⟨fs, (hsf i hi (Nat.le_refl _)).trans z1, z2⟩
    obtain ⟨f0, w1, w2⟩ := h.1.2.2.2.1.io b5
    have hm3S : ∀ fs : List Value, ZF S (R.ws i) = .inr (16, fs) → fs[3]? = some (.int (nI mn)) := fun fs e => by
      have ee : f0 = fs := (Prod.mk.inj (Sum.inr.inj (w1.symm.trans e))).2
      rw [← ee, ← w2 3 (by decide)]; exact e3
    obtain ⟨a1, a2, fs, mn2, na, g9, a3, a4, a5, a6, a7, a8, a9, a10, a11⟩ := h.1.2.1 i hi
    have ee : gs9 = fs := (Prod.mk.inj (Sum.inr.inj (b5.symm.trans a3))).2
    subst ee
    have em : mn = mn2 := nI_ij (Value.int.inj (Option.some.inj (e3.symm.trans a5))) (by omega) (by omega)
    subst em
    unfold f_sizeOfItem_16
    refine Rt.bd (oI_mk b2 b5 e3) (Rt.it (fun w9 => ?_) (fun w9 => ?_))
    · have ek : k = mn := by have := (nI_leI (a := mn) (b := k) (by omega) (by omega)).mp w9; omega
      subst ek
      exact (szEnd hD h hi h01 hm1 hmn hm3S hs).mo (fun S2 r ⟨q1, q2, q3, q4⟩ => ⟨q1, hsm.tr q2, (hsf.mo (Nat.le_succ _)).tr q3, q4⟩)
    have hlt : k < mn := by
      rcases Nat.lt_or_ge k mn with z | z
      · exact z
      · exact absurd (nI_le z (by omega)) w9
    have hgo : ∀ (S2 : Sg) (s2 : Nat), PrS R S S2 i (k + 1) s2 → SI R Pz c nv S g S2 → SM R S1 S2 → SFr R g (hN g i R.im) S1 S2 → Rt (f_sizeOfItem_16 R.K V m S2 (some (R.ws i)) (nI s2) (nI (k + 1))) (SZQ R Pz c nv S g i S0) := fun S2 s2 hs2 q2 q3 q4 => szi16 hD hc hW hE hV hi hik hno hm1 hmn hm3 h0 m (k + 1) s2 (by omega) (by omega) hs2 q2 (hsm.tr q3) (hsf.tr q4)
    refine Rt.bd (oI_mk b2 b5 b11) ?_
    rcases a11 with ⟨k1, ta, f, k2, k3⟩ | ⟨k1, vr, fv, k2, k3, k4, k5⟩ | ⟨k1, _⟩
    · rw [k1]
      obtain ⟨x, x1, x2⟩ := k3.2.2 k hlt
      obtain ⟨kd, ix, o, hx, _⟩ := x2.ty
      refine Rt.ip rfl (Rt.bd (oR_mk (v := some ta) b2 b5 k2) (Rt.bd (aQ_n (h.1.1.L k3.1.1) k3.2.1 (show k < 13 by omega) (by decide)) ?_))
      rw [x1]
      refine Rt.bn (szo_ hD hc hW hE hV h hi hik hno ⟨_, mn, b5, e3, hmn, Or.inl ⟨k1, ta, k, f, k2, k3.2.1, hlt, x1⟩⟩ hx) (fun S2 r q => ?_)
      obtain ⟨q1, q2, q3, s2, q4, q5⟩ := q
      unfold f_sizeOfItem_105
      rw [q4, nI_add, nI_1]
      refine hgo S2 _ ?_ q1 q2 q3
      obtain ⟨fs7, y1, y0, y2⟩ := hs.mo q2
      have e7 : f0 = fs7 := (Prod.mk.inj (Sum.inr.inj (w1.symm.trans y1))).2
      subst e7
      have hps := q5.ps
      refine ⟨f0, w1, by omega, ?_⟩
      rcases y2 with ⟨_, ta2, f2, w, j2, j3, j4, j5⟩ | ⟨y2, _⟩
      · have et : ta2 = ta := Value.ref.inj (Option.some.inj (j2.symm.trans ((w2 10 (by decide)).symm.trans k2)))
        subst et
        have ef : f2 = f := Sum.inr.inj (Sum.inr.inj (Sum.inr.inj (Sum.inr.inj (Prod.mk.inj (Prod.mk.inj (Sum.inl.inj (j3.symm.trans (h.1.2.2.2.1.ro k3.2.1)))).2).2)))
        subst ef
        refine Or.inl ⟨k1, ta2, f2, psU w k s2, j2, j3, fun l hl => ?_, by rw [psN_up, ← j5]⟩
        by_cases el : l = k
        · subst el; exact ⟨x, x1, by rw [psU_s]; exact q5⟩
        · obtain ⟨x9, i1, i2⟩ := j4 l (by omega)
          exact ⟨x9, i1, by rw [psU_n el]; exact i2⟩
      · rw [k1] at y2; exact absurd y2 (by decide)
    · rw [k1]
      refine Rt.iq (by decide) ?_
      obtain ⟨pa, mk, f, p1, p3⟩ := k5 k hlt
      have hpS : paY R S pa mk f := p3.wi h.1.2.2.2.1
      have hmkr : mk ≤ 12 := by
        rcases p3.2 with ⟨_, e⟩ | ⟨_, _, _, e, _⟩ <;> omega
      -- a variant's parts
      suffices hloop : ∀ (m2 l s4 : Nat) (w : Nat → Nat) {S2 : Sg}, mk < l + m2 → l ≤ mk → s4 = 1 + psN w l → s4 ≤ 1 + 1000 * l → (∀ l2 : Nat, l2 < l → ∃ x : Nat, f l2 = some x ∧ tySz R S2 x (w l2)) → SI R Pz c nv S g S2 → SM R S1 S2 → SFr R g (hN g i R.im) S1 S2 → Rt (f_sizeOfItem_55 R.K V (f_sizeOfItem_16 R.K V m) m2 S2 (some (R.ws i)) (nI s) (nI k) (nI s4) (nI l)) (SZQ R Pz c nv S g i S0) from hloop bigN 0 1 (fun _ => 0) (by unfold bigN; omega) (by omega) rfl (by omega) (fun l hl => absurd hl (by omega)) h SM.rf SFr.rf
      intro m2
      induction m2 with
      | zero => intro l s4 w S2 h1 h2; omega
      | succ m2 ih =>
        intro l s4 w S2 hl1 hl2 hs4 hs5 hw q2 q3 q4
        obtain ⟨_, d2, _, fs8, gs8, d4, d5, _, _, d8, _, _, d11⟩ := hD.ob q2.1.1 hi
        have e8 : gs8[3]? = some (.int (nI mn)) := (d8 3 rfl).trans (hm3 _ d4)
        have hVX : WI R S S2 := q2.1.2.2.2.1
        obtain ⟨f02, w12, w22⟩ := hVX.io d5
        have ef0 : f0 = f02 := (Prod.mk.inj (Sum.inr.inj (w1.symm.trans w12))).2
        subst ef0
        have y2 : gs8[11]? = some (.ref vr) := (w22 11 (by decide)).trans ((w2 11 (by decide)).symm.trans k2)
        have hro : ∀ {a n : Nat} {kc : ClassId} {f : vRw}, ZF S1 a = .inl (kc, n, f) → ZF S2 a = .inl (kc, n, f) := fun {a n kc f} e => by
          rcases hVX.1 a with w | ⟨_, gs, g1, _, _, w, _⟩
          · rw [w]; exact h.1.2.2.2.1.ro e
          · rw [h.1.2.2.2.1.ro e] at w; cases w
        have hpa : ∀ {a : Nat} {ys : List Value}, ZF S1 a = .inr (17, ys) → ZF S2 a = .inr (17, ys) := fun {a ys} e => by
          rcases hVX.1 a with w | ⟨_, gs, g1, _, _, w, _⟩
          · rw [w]; exact h.1.2.2.2.1.pa e
          · rw [h.1.2.2.2.1.pa e] at w; cases w
        have y4 := hro k4
        have hmkr2 : ∃ ys : List Value, ZF S2 pa = .inr (17, ys) ∧ ys[0]? = some (.int (nI mk)) := by
          rcases p3.2 with ⟨p3, p4⟩ | ⟨wa, ta, p3, p4, p5⟩
          · exact ⟨_, hpa p3, by rw [p4]; rfl⟩
          · exact ⟨_, hpa p3, rfl⟩
        obtain ⟨ys, r1, r2⟩ := hmkr2
        have hpaL := q2.1.1.L p3.1.1
        unfold f_sizeOfItem_55
        refine Rt.bd (oR_mk (v := some vr) d2 d5 y2) (Rt.bd (aQ_n (q2.1.1.L k3.1) y4 (show k < 13 by omega) (by decide)) ?_)
        rw [p1]
        unfold f_sizeOfItem_105
        rw [nI_1 (a := k)]
        refine Rt.bd (oI_mk hpaL r1 r2) (Rt.it (fun w9 => ?_) (fun w9 => ?_))
        · have el : l = mk := by have := (nI_leI (a := mk) (b := l) (by omega) (by omega)).mp w9; omega
          subst el
          have hnew : ∀ s2 : Nat, s ≤ s2 → s4 ≤ s2 → s2 ≤ 13000 * (k + 1) → PrS R S S2 i (k + 1) s2 := fun s2 u1 u2 u3 => by
            obtain ⟨fs7, i1, i0, i2⟩ := hs.mo q3
            refine ⟨fs7, i1, u3, ?_⟩
            rcases i2 with ⟨i2, _⟩ | ⟨_, vr2, fv2, j2, j3, j5, j4⟩
            · rw [k1] at i2; exact absurd i2 (by decide)
            · have e7 : f0 = fs7 := (Prod.mk.inj (Sum.inr.inj (w1.symm.trans i1))).2
              subst e7
              have et : vr2 = vr := Value.ref.inj (Option.some.inj (j2.symm.trans ((w2 11 (by decide)).symm.trans k2)))
              subst et
              have ef : fv2 = fv := Sum.inr.inj (Sum.inr.inj (Sum.inr.inj (Sum.inr.inj (Prod.mk.inj (Prod.mk.inj (Sum.inl.inj (j3.symm.trans (h.1.2.2.2.1.ro k4)))).2).2)))
              subst ef
              refine Or.inr ⟨k1, vr2, fv2, j2, j3, fun _ => by omega, fun l9 hl9 => ?_⟩
              by_cases e9 : l9 = k
              · subst e9; exact ⟨pa, l, f, w, p1, hpS, hw, by omega⟩
              · obtain ⟨pa9, mk9, f9, w9, t1, t2, t3, t4⟩ := j4 l9 (by omega)
                exact ⟨pa9, mk9, f9, w9, t1, t2, t3, by omega⟩
          obtain ⟨_, _, i0, _⟩ := hs
          refine Rt.it (fun w8 => ?_) (fun w8 => ?_)
          · have := (nI_leI (a := s4) (b := s) (by omega) (by omega)).mp w8
            exact hgo S2 s (hnew s (Nat.le_refl _) this (by omega)) q2 q3 q4
          · have : s ≤ s4 := by
              rcases Nat.lt_or_ge s s4 with z | z
              · omega
              · exact absurd (nI_le z (by omega)) w8
            exact hgo S2 s4 (hnew s4 this (Nat.le_refl _) (by omega)) q2 q3 q4
        have hl : l < mk := by
          rcases Nat.lt_or_ge l mk with z | z
          · exact z
          · exact absurd (nI_le z (by omega)) w9
        rcases p3.2 with ⟨_, p4⟩ | ⟨wa, ta, p5, p4, p6⟩
        · omega
        obtain ⟨x, x1, x2⟩ := p6.2.2 l hl
        obtain ⟨kd, ix, o, hx, _⟩ := x2.ty
        refine Rt.bd (oR_mk (v := some vr) d2 d5 y2) (Rt.bd (aQ_n (q2.1.1.L k3.1) y4 (show k < 13 by omega) (by decide)) ?_)
        rw [p1]
        refine Rt.bd (oR_mk (v := some ta) hpaL (hpa p5) rfl) (Rt.bd (aQ_n (q2.1.1.L p6.1.1) (hro p6.2.1) (show l < 12 by omega) (by decide)) ?_)
        rw [x1]
        refine Rt.bn (szo_ hD hc hW hE hV q2 hi hik hno ⟨_, mn, d5, e8, hmn, Or.inr ⟨k1, vr, k, pa, wa, ta, mk, l, fv, f, y2, y4, hlt, p1, hpa p5, p4, hro p6.2.1, hl, x1⟩⟩ (q3.2 _ _ _ _ hx)) (fun S3 r q => ?_)
        obtain ⟨u1, u2, u3, s2, u4, u5⟩ := q
        rw [u4, nI_add, nI_1]
        have hps := u5.ps
        refine ih (l + 1) (s4 + s2) (psU w l s2) (by omega) (by omega) (by rw [psN_up]; omega) (by omega) (fun l2 hl2 => ?_) u1 (q3.tr u2) (q4.tr u3)
        by_cases el : l2 = l
        · subst el; exact ⟨x, x1, by rw [psU_s]; exact u5⟩
        · obtain ⟨x9, i1, i2⟩ := hw l2 (by omega)
          exact ⟨x9, i1, by rw [psU_n el]; exact i2.mo u2⟩
    · exact absurd k1 hik
/-- sizeOfItem -/
theorem szi_ (hD : RDI R) (hc : c ≤ 1990) (hW : wC R.im R.im g) (hE : ∀ a b : Nat, a < R.im → b < R.im → eD R S g a b) : ∀ (d i : Nat) (S1 : Sg), hN g i R.im < d → i < R.im → R.ik i ≠ 12 → noC R.im g i → SI R Pz c nv S g S1 → Rt (f_sizeOfItem R.K d S1 (some (R.ws i))) (SZQ R Pz c nv S g i S1)
  | 0, i, S1, h1, _, _, _, _ => by omega
  | d + 1, i, S1, h1, hi, hik, hno, h => by
    obtain ⟨b1, b2, b3, fs9, gs9, b4, b5, b6, b7, b8, b9, b10, b11⟩ := hD.ob h.1.1 hi
    obtain ⟨fs, s, v, k1, k2, k3, _⟩ := h.2 i hi
    have hm : ∃ mn : Nat, mn ≤ 12 ∧ ∀ fs : List Value, ZF R.S (R.ws i) = .inr (16, fs) → fs[3]? = some (.int (nI mn)) := by
      obtain ⟨a1, a2, fs, mn2, na, g9, a3, a4, a5, a6, _⟩ := h.1.2.1 i hi
      refine ⟨mn2, a6, fun fs0 e => ?_⟩
      have ee : gs9 = fs := (Prod.mk.inj (Sum.inr.inj (b5.symm.trans a3))).2
      subst ee
      have e0 : fs9 = fs0 := (Prod.mk.inj (Sum.inr.inj (b4.symm.trans e))).2
      subst e0
      exact (b8 3 rfl).symm.trans a5
    obtain ⟨mn, m1, m2⟩ := hm
    have hmn1 := hD.m1 hi hik m1 m2
    unfold f_sizeOfItem
    refine Rt.bd (oI_mk b2 k1 k2) (Rt.it (fun w => ?_) (fun w => Rt.bd (oI_mk b2 k1 k2) (Rt.rt ⟨h, SM.rf, SFr.rf, s, rfl, fs, k1, k2, ?_, k3⟩)))
    · have es : s = 0 := by have := (nI_leI (a := s) (b := 0) (by omega) (by omega)).mp w; omega
      subst es
      have h0 : PrS R S S1 i 0 0 := by
        obtain ⟨f0, w1, w2⟩ := h.1.2.2.2.1.io b5
        obtain ⟨a1, a2, fs3, mn2, na, g9, a3, a4, a5, a6, a7, a8, a9, a10, a11⟩ := h.1.2.1 i hi
        have ee : gs9 = fs3 := (Prod.mk.inj (Sum.inr.inj (b5.symm.trans a3))).2
        subst ee
        refine ⟨f0, w1, by omega, ?_⟩
        rcases a11 with ⟨j1, ta, f, j2, j3⟩ | ⟨j1, vr, fv, j2, j3, j4, j5⟩ | ⟨j1, _⟩
        · exact Or.inl ⟨j1, ta, f, fun _ => 0, (w2 10 (by decide)).symm.trans j2, h.1.2.2.2.1.ro j3.2.1, fun l hl => absurd hl (by omega), rfl⟩
        · exact Or.inr ⟨j1, vr, fv, (w2 11 (by decide)).symm.trans j2, h.1.2.2.2.1.ro j4, fun z => absurd z (by omega), fun l hl => absurd hl (by omega)⟩
        · exact absurd j1 hik
      exact szi16 hD hc hW hE (fun j S2 hj hjk hjn hjm q2 => szi_ hD hc hW hE d j S2 (by omega) hj hjk hjn q2) hi hik hno hmn1 m1 m2 ⟨fs, k1, k2⟩ bigN 0 0 (by unfold bigN; omega) (Nat.zero_le _) h0 h SM.rf SFr.rf
    · rcases Nat.eq_zero_or_pos s with z | z
      · subst z; exact absurd (nI_le (a := 0) (b := 0) (Nat.le_refl _) (by omega)) w
      · exact z
end SZI
end
-- k7.y.lean.txt
section
section SZS
variable {R : yR} {Pz : Int32 → Prop} {c nv : Nat} {S : Sg} {g : Nat → Int32}
theorem SM.fl {S1 : Sg} {wh x : Int32} : SM R S1 (flS S1 wh x) := ⟨fun j s _ q => by
  obtain ⟨fs, q1, q2⟩ := q
  exact ⟨fs, by rw [flS_st.2.1]; exact q1, q2⟩, fun y kd ix o q => (VX.fl (R := R) (X := nX) (S := S1) (wh := wh) (x := x)).2.2.2.1 y kd ix o q⟩
/-- the items are not endless, and not too large -/
def SZD (R : yR) (g : Nat → Int32) (k : Nat) (S1 : Sg) : Prop := ∀ a : Nat, a < k → R.ik a ≠ 12 → noC R.im g a ∧ ∃ s : Nat, s ≤ 16 ∧ iSz R S1 a s
theorem SZD.mo {k : Nat} {S1 S2 : Sg} (hk : k ≤ R.im) (h : SM R S1 S2) (q : SZD R g k S1) : SZD R g k S2 := fun a ha hik => by
  obtain ⟨q1, s, q2, q3⟩ := q a ha hik
  exact ⟨q1, s, q2, h.1 a s (by omega) q3⟩
theorem SI.fl {S1 : Sg} (h : SI R Pz c nv S g S1) {wh x : Int32} : SI R Pz c nv S g (flS S1 wh x) := by
  obtain ⟨⟨h1, h2, h3, h4, h5, h7⟩, h6⟩ := h
  have hV : VX R (Xo R 0 0) S1 (flS S1 wh x) := VX.fl
  exact ⟨⟨h1.fl, h2.vx hV, h3.vx hV, h4.fl, by rw [flS_fr.2.1]; exact h5, fun a ha => by rw [flS_st.2.1]; exact h7 a ha⟩, fun a ha => by
    obtain ⟨fs, s, v, k1, k2, k3, k4, k5, k6, k7⟩ := h6 a ha
    exact ⟨fs, s, v, by rw [flS_st.2.1]; exact k1, k2, k3, k4, k5, k6, fun z => (k7 z).mo SM.fl⟩⟩
/-- sizes, behind endless -/
theorem szs6 (hD : RDI R) (hc : c ≤ 1990) (hW : wC R.im R.im g) (hE : ∀ a b : Nat, a < R.im → b < R.im → eD R S g a b) : ∀ (m k : Nat) {S1 : Sg}, R.im < k + m → k ≤ R.im → SI R Pz c nv S g S1 → (Zi S1 3 = 0 → SZD R g k S1) → Rt (f_sizes_6 R.K m S1 (nI k)) (fun S2 _ => SI R Pz c nv S g S2 ∧ (Zi S2 3 = 0 → SZD R g R.im S2))
  | 0, k, _, h1, h2, _, _ => by omega
  | m + 1, k, S1, h1, h2, q1, hd => by
    have hD0 := hD.1
    unfold f_sizes_6 f_sizes_82
    rw [q1.1.1.i12 hD]
    refine Rt.it (fun w9 => ?_) (fun w9 => ?_)
    · have e : k = R.im := by have := (nI_leI (a := R.im) (b := k) (by omega) (by omega)).mp w9; omega
      subst e
      exact Rt.rt ⟨q1, hd⟩
    have hlt : k < R.im := by
      rcases Nat.lt_or_ge k R.im with z | z
      · exact z
      · exact absurd (nI_le z (by omega)) w9
    refine Rt.ok (fun z => ?_) (fun z => Rt.rt ⟨q1, fun w => absurd w z⟩)
    obtain ⟨b1, b2, b3, fs9, gs9, b4, b5, b6, b7, b8, b9, b10, b11⟩ := hD.ob q1.1.1 hlt
    obtain ⟨fs, s, v, k1, k2, k3, k4, k5, k6, _⟩ := q1.2 k hlt
    have h62 : ∀ S2 : Sg, SI R Pz c nv S g S2 → Rt (f_sizes_62 R.K (f_sizes_6 R.K m) S2 (nI k)) (fun S2 _ => SI R Pz c nv S g S2 ∧ (Zi S2 3 = 0 → SZD R g R.im S2)) := fun S2 q2 => by
      obtain ⟨_, d2, d3, _, gs8, _, d5, _, _, _, _, d10, _⟩ := hD.ob q2.1.1 hlt
      unfold f_sizes_62 f_sizes_76
      rw [nI_1]
      exact Rt.bd (hD.it q2.1.1 hlt) (Rt.bd (oI_mk d2 d5 d10) (Rt.be (fai_ q2.1.1 d3) (szs6 hD hc hW hE m (k + 1) (by omega) (by omega) q2.fl (fun w => absurd w (flS_n0 (by decide))))))
    refine Rt.bd (hD.it q1.1.1 hlt) (Rt.bd (oI_mk b2 b5 b11) (Rt.it (fun ek => ?_) (fun ek => ?_)))
    · unfold f_sizes_76
      rw [nI_1]
      refine szs6 hD hc hW hE m (k + 1) (by omega) (by omega) q1 (fun w a ha hk => ?_)
      by_cases e : a = k
      · subst e; exact absurd ek hk
      · exact hd w a (by omega) hk
    refine Rt.bd (hD.it q1.1.1 hlt) (Rt.bd (oI_mk b2 k1 k4) (Rt.it (fun e0 => ?_) (fun _ => h62 S1 q1)))
    refine Rt.bd (hD.it q1.1.1 hlt) (Rt.bn (szi_ hD hc hW hE 80 k S1 (by have := hN_le (f := g) (i := k) R.im; omega) hlt ek (k6 e0) q1) (fun S2 r q2 => ?_))
    obtain ⟨q2, q3, _, s2, q4, q5⟩ := q2
    have hs2 := q5
    obtain ⟨_, _, _, hs3, hs4⟩ := hs2
    refine Rt.it (fun w16 => ?_) (fun _ => h62 S2 q2)
    have hle : s2 ≤ 16 := by
      rw [q4] at w16
      exact (nI_leI (a := s2) (b := 16) (by omega) (by omega)).mp w16
    unfold f_sizes_76
    rw [nI_1]
    refine szs6 hD hc hW hE m (k + 1) (by omega) (by omega) q2 (fun w a ha hk => ?_)
    by_cases e : a = k
    · subst e; exact ⟨k6 e0, s2, hle, q5⟩
    · exact (hd z).mo (by omega) q3 a (by omega) hk
/-- sizes -/
theorem szs_ (hD : RDI R) (hc : c ≤ 1990) (h : TS R c nv S) (hA : ITA R S) (hR : ROW R S) (hF : F20 R Pz S) : Rt (f_sizes R.K S) (fun S2 _ => ∃ g : Nat → Int32, wC R.im R.im g ∧ (∀ a b : Nat, a < R.im → b < R.im → eD R S g a b) ∧ SI R Pz c nv S g S2 ∧ (Zi S2 3 = 0 → SZD R g R.im S2)) := by
  have hD0 := hD.1
  unfold f_sizes
  refine Rt.bn (edl_ hD h hA hR hF) (fun S2 _ q => ?_)
  obtain ⟨g, hw, he, q1, q2⟩ := q
  exact (szs6 hD hc hw he bigN 0 (by unfold bigN; omega) (Nat.zero_le _) (EF.si q1 q2) (fun _ a ha => absurd ha (by omega))).mo (fun S3 _ q3 => ⟨g, hw, he, q3⟩)
end SZS
end
-- k7.z.lean.txt
section
/-- item j's leaves are told -/
def iLv (R : yR) (S1 : Sg) (j n : Nat) : Prop := (∃ fs : List Value, ZF S1 (R.ws j) = .inr (16, fs) ∧ fs[20]? = some (.int (nI n)) ∧ 1 ≤ n) ∧ ∃ s : Nat, iSz R S1 j s ∧ n ≤ s ∧ s ≤ 16
/-- the leaves of the type x; its item has fewer than m below it -/
def tyLv (R : yR) (g : Nat → Int32) (m : Nat) (S1 : Sg) (x n : Nat) : Prop := ∃ (kd ix : Int32) (o : Option Nat), isTy S1 x kd ix o ∧ ((kd = 3 ∧ ∃ j : Nat, j < R.im ∧ ix = nI j ∧ R.ik j = 10 ∧ hN g j R.im < m ∧ iLv R S1 j n) ∨ (kd ≠ 3 ∧ n = 1))
/-- leaves that are told stay, of items that have fewer than m below them -/
def LM (R : yR) (g : Nat → Int32) (m : Nat) (S1 S2 : Sg) : Prop := (∀ j n : Nat, j < R.im → hN g j R.im < m → iLv R S1 j n → iLv R S2 j n) ∧ SM R S1 S2
theorem LM.rf {R : yR} {g : Nat → Int32} {m : Nat} {S1 : Sg} : LM R g m S1 S1 := ⟨fun _ _ _ _ h => h, SM.rf⟩
theorem LM.tr {R : yR} {g : Nat → Int32} {m : Nat} {S1 S2 S3 : Sg} (h : LM R g m S1 S2) (q : LM R g m S2 S3) : LM R g m S1 S3 := ⟨fun j s hj hm z => q.1 j s hj hm (h.1 j s hj hm z), h.2.tr q.2⟩
theorem LM.up {R : yR} {g : Nat → Int32} {m k : Nat} {S1 S2 : Sg} (h : LM R g m S1 S2) (q : k ≤ m) : LM R g k S1 S2 := ⟨fun j s hj hm z => h.1 j s hj (by omega) z, h.2⟩
theorem tyLv.mo {R : yR} {g : Nat → Int32} {m : Nat} {S1 S2 : Sg} {x s : Nat} (h : LM R g m S1 S2) (q : tyLv R g m S1 x s) : tyLv R g m S2 x s := by
  obtain ⟨kd, ix, o, q1, q2⟩ := q
  exact ⟨kd, ix, o, h.2.2 _ _ _ _ q1, q2.imp (fun ⟨a, j, b1, b2, b3, b4, b5⟩ => ⟨a, j, b1, b2, b3, b4, h.1 j s b1 b4 b5⟩) id⟩
/-- what the leaves of a struct are: those of its fields -/
def EqL (R : yR) (g : Nat → Int32) (S S1 : Sg) (a n : Nat) : Prop := ∃ (fs : List Value) (mn ta : Nat) (f : Nat → Option Nat) (w : Nat → Nat), ZF S (R.ws a) = .inr (16, fs) ∧ fs[3]? = some (.int (nI mn)) ∧ mn ≤ 12 ∧ fs[10]? = some (.ref ta) ∧ ZF S ta = .inl (R.K.1 4, 13, .inr (.inr (.inr (.inr f)))) ∧ (∀ k : Nat, k < mn → ∃ x : Nat, f k = some x ∧ tyLv R g (hN g a R.im) S1 x (w k)) ∧ n = psN w mn
theorem EqL.mo {R : yR} {g : Nat → Int32} {S S1 S2 : Sg} {a n : Nat} (h : LM R g (hN g a R.im) S1 S2) (q : EqL R g S S1 a n) : EqL R g S S2 a n := by
  obtain ⟨fs, mn, ta, f, w, q1, q2, q3, q4, q5, q6, q7⟩ := q
  exact ⟨fs, mn, ta, f, w, q1, q2, q3, q4, q5, fun k hk => by obtain ⟨x, x1, x2⟩ := q6 k hk; exact ⟨x, x1, x2.mo h⟩, q7⟩
section LVI
variable {R : yR} {c nv : Nat} {S : Sg} {g : Nat → Int32}
/-- the leaves of items are being told -/
def LVP (R : yR) (c nv : Nat) (S : Sg) (g : Nat → Int32) (z : Int32) (S2 : Sg) : Prop := EI R (fun _ => True) c nv S g S2 ∧ Zi S2 3 = z ∧ ∀ a : Nat, a < R.im → R.ik a ≠ 12 → ∃ s : Nat, s ≤ 16 ∧ iSz R S2 a s ∧ EqS R S S2 a s
/-- of items that have fewer than m below them, the leaves are told or not begun -/
def LQ9 (R : yR) (S : Sg) (g : Nat → Int32) (m : Nat) (S1 : Sg) : Prop := ∀ a : Nat, a < R.im → R.ik a = 10 → hN g a R.im < m → ∃ (fs : List Value) (v : Int32), ZF S1 (R.ws a) = .inr (16, fs) ∧ fs[20]? = some (.int v) ∧ (v = 0 ∨ ∃ n : Nat, v = nI n ∧ iLv R S1 a n ∧ EqL R g S S1 a n)
/-- items but i that have at least as many below them as i are as they were -/
def LFr (R : yR) (g : Nat → Int32) (i : Nat) (S1 S2 : Sg) : Prop := ∀ a : Nat, a < R.im → a ≠ i → hN g i R.im ≤ hN g a R.im → ZF S2 (R.ws a) = ZF S1 (R.ws a)
theorem iLv_cell {S1 S2 : Sg} {j n : Nat} (e : ZF S2 (R.ws j) = ZF S1 (R.ws j)) (h : iLv R S1 j n) : iLv R S2 j n := by
  obtain ⟨⟨fs, h1, h2⟩, s, ⟨fs2, h3, h4⟩, h5⟩ := h
  exact ⟨⟨fs, e.trans h1, h2⟩, s, ⟨fs2, e.trans h3, h4⟩, h5⟩
/-- behind a call for an item j below i -/
theorem LQ9.up {S1 S2 : Sg} {m j : Nat} (h : LQ9 R S g m S1) (hj : hN g j R.im < m) (h2 : LQ9 R S g (hN g j R.im + 1) S2) (hf : LFr R g j S1 S2) (hl : ∀ k : Nat, LM R g k S1 S2) : LQ9 R S g m S2 := fun a ha hk hn => by
  by_cases e : hN g a R.im < hN g j R.im + 1
  · exact h2 a ha hk e
  · obtain ⟨fs, v, q1, q2, q3⟩ := h a ha hk hn
    have ec := hf a ha (fun e2 => by subst e2; omega) (by omega)
    exact ⟨fs, v, ec.trans q1, q2, q3.imp id (fun ⟨n, r1, r2, r3⟩ => ⟨n, r1, iLv_cell ec r2, r3.mo (hl _)⟩)⟩
/-- what the leaves of item i give -/
def LVR (R : yR) (c nv : Nat) (S : Sg) (g : Nat → Int32) (z : Int32) (i : Nat) (S1 S2 : Sg) (r : Int32) : Prop := LVP R c nv S g z S2 ∧ LQ9 R S g (hN g i R.im + 1) S2 ∧ LFr R g i S1 S2 ∧ (∀ k : Nat, LM R g k S1 S2) ∧ ∃ n : Nat, r = nI n ∧ iLv R S2 i n
theorem tyLv.le {m : Nat} {S1 : Sg} {x n s : Nat} (him : R.im ≤ 70) (h : tyLv R g m S1 x n) (q : tySz R S1 x s) : n ≤ s ∧ 1 ≤ n := by
  obtain ⟨kd, ix, o, h1, h2⟩ := h
  obtain ⟨kd2, ix2, o2, q1, q2⟩ := q
  obtain ⟨t, _, _, _, e1⟩ := h1
  obtain ⟨t2, _, _, _, e2⟩ := q1
  have ee := (Prod.mk.inj (Sum.inr.inj (e1.symm.trans e2))).2
  have ek : kd = kd2 := by injection ee with ee _; injection ee
  have ei : ix = ix2 := by injection ee with _ ee; injection ee with ee _; injection ee
  subst ek; subst ei
  rcases h2 with ⟨k3, j, j1, j2, j3, j4, ⟨fs0, u0, u1, u2⟩, s9, j5, j6, j7⟩ | ⟨k3, k4⟩
  · rcases q2 with ⟨_, j', b1, b2, b3, fs, b4, b5, b6, b7⟩ | ⟨q2, _⟩
    · have ej : j = j' := nI_ij (j2.symm.trans b2) (by omega) (by omega)
      subst ej
      obtain ⟨fs2, c1, c2, c3, c4⟩ := j5
      have e3 : fs = fs2 := (Prod.mk.inj (Sum.inr.inj (b4.symm.trans c1))).2
      subst e3
      have := nI_ij (Value.int.inj (Option.some.inj (b5.symm.trans c2))) (by omega) (by omega)
      omega
    · exact absurd k3 q2
  · rcases q2 with ⟨_, j', b1, b2, b3, fs, b4, b5, b6, b7⟩ | ⟨_, _, q3⟩ <;> omega
theorem psN_le {w w2 : Nat → Nat} : ∀ {n : Nat}, (∀ k : Nat, k < n → w k ≤ w2 k) → psN w n ≤ psN w2 n
  | 0, _ => Nat.le_refl _
  | n + 1, h => by
    show psN w n + w n ≤ psN w2 n + w2 n
    have := psN_le (n := n) (fun k hk => h k (by omega))
    have := h n (by omega); omega
theorem psN_mo {w : Nat → Nat} {k : Nat} : ∀ {n : Nat}, k ≤ n → psN w k ≤ psN w n
  | 0, h => by have : k = 0 := by omega
               subst this; exact Nat.le_refl _
  | n + 1, h => by
    by_cases e : k = n + 1
    · subst e; exact Nat.le_refl _
    · have := psN_mo (w := w) (k := k) (n := n) (by omega)
      show _ ≤ psN w n + w n; omega
/-- the leaves of item i, as far as its first k fields tell them -/
def PrL (R : yR) (g : Nat → Int32) (S S1 : Sg) (i k n : Nat) : Prop := ∃ (fs f1 : List Value) (ta : Nat) (f : Nat → Option Nat) (w : Nat → Nat), ZF S (R.ws i) = .inr (16, fs) ∧ fs[10]? = some (.ref ta) ∧ ZF S ta = .inl (R.K.1 4, 13, .inr (.inr (.inr (.inr f)))) ∧ (∀ l : Nat, l < k → ∃ x : Nat, f l = some x ∧ tyLv R g (hN g i R.im) S1 x (w l)) ∧ n = psN w k ∧ ZF S1 (R.ws i) = .inr (16, f1) ∧ f1[20]? = some (.int (nI n))
/-- what the fields' leaves come to is at most the size -/
theorem PrL.le {z : Int32} {S1 : Sg} {i k n mn : Nat} (him : R.im ≤ 70) (h : LVP R c nv S g z S1) (hi : i < R.im) (hik : R.ik i = 10) (hm3 : ∀ fs : List Value, ZF S (R.ws i) = .inr (16, fs) → fs[3]? = some (.int (nI mn))) (hmn : mn ≤ 12) (hk : k ≤ mn) (q : PrL R g S S1 i k n) : ∃ s : Nat, iSz R S1 i s ∧ n ≤ s ∧ s ≤ 16 := by
  obtain ⟨fs, f1, ta, f, w, q1, q2, q3, q4, q5, q6, q7⟩ := q
  obtain ⟨s, s1, s2, fs2, mn2, s3, s4, s5, s6, s7⟩ := h.2.2 i hi (by rw [hik]; decide)
  have e1 : fs = fs2 := (Prod.mk.inj (Sum.inr.inj (q1.symm.trans s3))).2
  subst e1
  have e2 : mn = mn2 := nI_ij (Value.int.inj (Option.some.inj ((hm3 _ q1).symm.trans s4))) (by omega) (by omega)
  subst e2
  refine ⟨s, s2, ?_, s1⟩
  rcases s7 with ⟨_, ta2, f2, w2, t1, t2, t3, t4⟩ | ⟨s7, _⟩
  · have et : ta = ta2 := Value.ref.inj (Option.some.inj (q2.symm.trans t1))
    subst et
    have ef : f = f2 := Sum.inr.inj (Sum.inr.inj (Sum.inr.inj (Sum.inr.inj (Prod.mk.inj (Prod.mk.inj (Sum.inl.inj (q3.symm.trans t2))).2).2)))
    subst ef
    have h1 : psN w k ≤ psN w2 k := psN_le (fun l hl => by
      obtain ⟨x, x1, x2⟩ := q4 l hl
      obtain ⟨x', y1, y2⟩ := t3 l (by omega)
      have : x = x' := Option.some.inj (x1.symm.trans y1)
      subst this
      exact (tyLv.le him x2 y2).1)
    have h2 : psN w2 k ≤ psN w2 mn := psN_mo hk
    omega
  · rw [hik] at s7; exact absurd s7 (by decide)
theorem lvi9 (hD : RDI R) (hc : c ≤ 1990) (hW : wC R.im R.im g) (hE : ∀ a b : Nat, a < R.im → b < R.im → eD R S g a b) {V : Sg → Option Nat → Option (Sg × Int32)} {i : Nat} {z : Int32} (hV : ∀ (j : Nat) (S1 : Sg), j < R.im → R.ik j = 10 → noC R.im g j → hN g j R.im < hN g i R.im → LVP R c nv S g z S1 → LQ9 R S g (hN g j R.im + 1) S1 → Rt (V S1 (some (R.ws j))) (LVR R c nv S g z j S1)) (hi : i < R.im) (hik : R.ik i = 10) (hno : noC R.im g i) {mn : Nat} (hm1 : 1 ≤ mn) (hmn : mn ≤ 12) (hm3 : ∀ fs : List Value, ZF R.S (R.ws i) = .inr (16, fs) → fs[3]? = some (.int (nI mn))) {S0 : Sg} (h0 : ∃ fs : List Value, ZF S0 (R.ws i) = .inr (16, fs) ∧ fs[20]? = some (.int 0)) (hQ0 : LQ9 R S g (hN g i R.im + 1) S0) : ∀ (m k n : Nat) {S1 : Sg}, mn < k + m → k ≤ mn → LVP R c nv S g z S1 → LQ9 R S g (hN g i R.im) S1 → PrL R g S S1 i k n → LFr R g i S0 S1 → LM R g (hN g i R.im) S0 S1 → Rt (f_leavesOfItem_9 R.K V m S1 (some (R.ws i)) (nI k)) (LVR R c nv S g z i S0)
  | 0, k, n, _, h1, h2, _, _, _, _, _ => by omega
  | m + 1, k, n, S1, h1, h2, h, hQ, hP, hFr, hLM => by
    obtain ⟨b1, b2, b3, fs9, gs9, b4, b5, b6, b7, b8, b9, b10, b11⟩ := hD.ob h.1.1 hi
    have e3 : gs9[3]? = some (.int (nI mn)) := (b8 3 rfl).trans (hm3 _ b4)
    obtain ⟨f0, w1, w2⟩ := h.1.2.2.2.1.io b5
    have hm3S : ∀ fs : List Value, ZF S (R.ws i) = .inr (16, fs) → fs[3]? = some (.int (nI mn)) := fun fs e => by
      have ee : f0 = fs := (Prod.mk.inj (Sum.inr.inj (w1.symm.trans e))).2
      rw [← ee, ← w2 3 (by decide)]; exact e3
    obtain ⟨a1, a2, fs, mn2, na, g9, a3, a4, a5, a6, a7, a8, a9, a10, a11⟩ := h.1.2.1 i hi
    have ee : gs9 = fs := (Prod.mk.inj (Sum.inr.inj (b5.symm.trans a3))).2
    subst ee
    have em : mn = mn2 := nI_ij (Value.int.inj (Option.some.inj (e3.symm.trans a5))) (by omega) (by omega)
    subst em
    obtain ⟨s9, hs1, hs2, hs3⟩ := PrL.le hD.1 h hi hik hm3S hmn h2 hP
    have hP2 := hP
    obtain ⟨fsP, f1, taP, fP, wP, p1, p2, p3, p4, p5, p6, p7⟩ := hP2
    have e0 : f0 = fsP := (Prod.mk.inj (Sum.inr.inj (w1.symm.trans p1))).2
    subst e0
    have ef1 : gs9 = f1 := (Prod.mk.inj (Sum.inr.inj (b5.symm.trans p6))).2
    subst ef1
    -- all of LM, from where it began: item i was not told there
    have hall : ∀ S2 : Sg, LFr R g i S0 S2 → LM R g (hN g i R.im) S0 S2 → ∀ k : Nat, LM R g k S0 S2 := fun S2 q1 q2 k => ⟨fun j t hj hm w => by
      by_cases ej : hN g j R.im < hN g i R.im
      · exact q2.1 j t hj ej w
      · by_cases e : j = i
        · subst e
          obtain ⟨fs0, z1, z2⟩ := h0
          obtain ⟨⟨fs, y1, y2, y3⟩, s, _, y4, y5⟩ := w
          have e1 : fs0 = fs := (Prod.mk.inj (Sum.inr.inj (z1.symm.trans y1))).2
          subst e1
          have := nI_ij (b := 0) (Value.int.inj (Option.some.inj (y2.symm.trans z2))) (by omega) (by omega)
          omega
        · exact iLv_cell (q1 j hj e (by omega)) w, q2.2⟩
    unfold f_leavesOfItem_9
    refine Rt.bd (oI_mk b2 b5 e3) (Rt.it (fun w9 => ?_) (fun w9 => ?_))
    · have ek : k = mn := by have := (nI_leI (a := mn) (b := k) (by omega) (by omega)).mp w9; omega
      subst ek
      have hn1 : 1 ≤ n := by
        rw [p5]
        refine psN_1 hm1 (fun l hl => ?_)
        obtain ⟨x, x1, x2⟩ := p4 l hl
        obtain ⟨kd, ix, o, _, ⟨_, j, _, _, _, _, ⟨_, _, _, q⟩, _⟩ | ⟨_, q⟩⟩ := x2 <;> omega
      have hit : iLv R S1 i n := ⟨⟨_, p6, p7, hn1⟩, s9, hs1, hs2, hs3⟩
      unfold f_leavesOfItem_67
      refine Rt.bd (oI_mk b2 b5 p7) (Rt.rt ⟨h, fun a ha hk hn => ?_, hFr, hall S1 hFr hLM, n, rfl, hit⟩)
      by_cases e : a = i
      · subst e
        exact ⟨_, _, b5, p7, Or.inr ⟨n, rfl, hit, f0, k, taP, fP, wP, p1, hm3S _ p1, hmn, p2, p3, p4, p5⟩⟩
      · by_cases en : hN g a R.im < hN g i R.im
        · exact hQ a ha hk en
        · -- as many below it as i: as it was
          have ec := hFr a ha e (by omega)
          obtain ⟨fs2, v2, q1, q2, q3⟩ := hQ0 a ha hk hn
          exact ⟨fs2, v2, ec.trans q1, q2, q3.imp id (fun ⟨n2, r1, r2, r3⟩ => ⟨n2, r1, iLv_cell ec r2, r3.mo (hall S1 hFr hLM _)⟩)⟩
    have hlt : k < mn := by
      rcases Nat.lt_or_ge k mn with z | z
      · exact z
      · exact absurd (nI_le z (by omega)) w9
    rcases a11 with ⟨k1, ta, f, k2, k3⟩ | ⟨k1, _⟩ | ⟨k1, _⟩
    · obtain ⟨x, x1, x2⟩ := k3.2.2 k hlt
      obtain ⟨kd, ix, o, hty, _⟩ := x2.ty
      have hok := (h.1.1.at hc hty).1
      have hty2 := hty
      obtain ⟨t, t1, t2, t3, t4⟩ := hty2
      have et : taP = ta := Value.ref.inj (Option.some.inj (p2.symm.trans ((w2 10 (by decide)).symm.trans k2)))
      have ef : fP = f := by
        rw [et] at p3
        exact Sum.inr.inj (Sum.inr.inj (Sum.inr.inj (Sum.inr.inj (Prod.mk.inj (Prod.mk.inj (Sum.inl.inj (p3.symm.trans (h.1.2.2.2.1.ro k3.2.1)))).2).2)))
      have h57 : ∀ (S2 : Sg) (n2 : Nat), LVP R c nv S g z S2 → LQ9 R S g (hN g i R.im) S2 → PrL R g S S2 i k n → LFr R g i S0 S2 → LM R g (hN g i R.im) S0 S2 → tyLv R g (hN g i R.im) S2 x n2 → Rt (f_leavesOfItem_57 R.K V (f_leavesOfItem_9 R.K V m) S2 (some (R.ws i)) (nI k) (nI n2) (nI n) (some (R.ws i))) (LVR R c nv S g z i S0) := fun S2 n2 u1 u2 u3 u4 u5 u6 => by
        obtain ⟨gs, g1, g2, g3, g4⟩ := u1.1.w hD hi (k := 20) (Or.inr (Or.inl rfl)) (.int (nI (n + n2))) (Or.inr ⟨_, rfl, trivial⟩)
        have hne : ∀ a : Nat, a < R.im → a ≠ i → ZF (UF S2 (R.ws i) (.inr (16, gs.set 20 (.int (nI (n + n2)))))) (R.ws a) = ZF S2 (R.ws a) := fun a ha e => ZF_n (hD.ne ha hi e)
        have hits : ∀ a s : Nat, a < R.im → iSz R S2 a s → iSz R (UF S2 (R.ws i) (.inr (16, gs.set 20 (.int (nI (n + n2)))))) a s := fun a s ha q => by
          by_cases e : a = i
          · subst e
            obtain ⟨fs8, y1, y2, y3⟩ := q
            have e1 : gs = fs8 := (Prod.mk.inj (Sum.inr.inj (g1.symm.trans y1))).2
            subst e1
            exact ⟨_, ZF_s, by rw [List.getElem?_set_ne (by decide)]; exact y2, y3⟩
          · obtain ⟨fs8, y1, y2⟩ := q
            exact ⟨fs8, (hne a ha e).trans y1, y2⟩
        have hsm : SM R S2 (UF S2 (R.ws i) (.inr (16, gs.set 20 (.int (nI (n + n2)))))) := ⟨fun j s hj q => hits j s hj q, fun x kd ix o q => g4.2.2.2.1.ty2 (u1.1.2.2.2.1.ty q)⟩
        have hlm : LM R g (hN g i R.im) S2 (UF S2 (R.ws i) (.inr (16, gs.set 20 (.int (nI (n + n2)))))) := ⟨fun j t hj hm w => iLv_cell (hne j hj (fun e => by subst e; omega)) w, hsm⟩
        unfold f_leavesOfItem_57
        rw [nI_add, nI_1]
        refine Rt.bd g3 (lvi9 hD hc hW hE hV hi hik hno hm1 hmn hm3 h0 hQ0 m (k + 1) (n + n2) (by omega) (by omega) ⟨g4, u1.2.1, fun a ha hk => ?_⟩ (fun a ha hk hn => ?_) ?_ (fun a ha e hn => (hne a ha e).trans (u4 a ha e hn)) (u5.tr hlm))
        · obtain ⟨s, v1, v2, v3⟩ := u1.2.2 a ha hk
          exact ⟨s, v1, hits a s ha v2, v3.mo hsm⟩
        · have ea : a ≠ i := fun e => by subst e; omega
          obtain ⟨fs2, v2, q1, q2, q3⟩ := u2 a ha hk hn
          exact ⟨fs2, v2, (hne a ha ea).trans q1, q2, q3.imp id (fun ⟨n9, r1, r2, r3⟩ => ⟨n9, r1, iLv_cell (hne a ha ea) r2, r3.mo (hlm.up (by omega))⟩)⟩
        · obtain ⟨fs7, f17, ta7, f7, w7, v1, v2, v3, v4, v5, v6, v7⟩ := u3
          have e7 : f0 = fs7 := (Prod.mk.inj (Sum.inr.inj (p1.symm.trans v1))).2
          subst e7
          have et7 : ta7 = taP := Value.ref.inj (Option.some.inj (v2.symm.trans p2))
          subst et7
          have ef7 : f7 = fP := Sum.inr.inj (Sum.inr.inj (Sum.inr.inj (Sum.inr.inj (Prod.mk.inj (Prod.mk.inj (Sum.inl.inj (v3.symm.trans p3))).2).2)))
          refine ⟨f0, _, ta7, f7, psU w7 k n2, v1, v2, v3, fun l hl => ?_, by rw [psN_up, ← v5], ZF_s, by rw [List.getElem?_set_self (by rw [g2]; decide)]⟩
          by_cases el : l = k
          · subst el; exact ⟨x, by rw [ef7, ef]; exact x1, by rw [psU_s]; exact u6.mo hlm⟩
          · obtain ⟨x9, i1, i2⟩ := v4 l (by omega)
            exact ⟨x9, i1, by rw [psU_n el]; exact i2.mo hlm⟩
      refine Rt.bd (oI_mk b2 b5 p7) (Rt.bd (oR_mk (v := some ta) b2 b5 k2) (Rt.bd (aQ_n (h.1.1.L k3.1.1) k3.2.1 (show k < 13 by omega) (by decide)) ?_))
      rw [x1]
      refine Rt.bd (oI_mk t3 t4 (v := kd) rfl) (Rt.it (fun ek => ?_) (fun ek => h57 S1 1 h hQ hP hFr hLM ⟨kd, ix, o, hty, Or.inr ⟨ek, rfl⟩⟩))
      obtain ⟨j, hj, ej, hjk⟩ : ∃ j : Nat, j < R.im ∧ ix = nI j ∧ R.ik j = 10 := by
        rcases hok with ⟨w, _⟩ | ⟨_, w, _⟩ | ⟨w, _⟩ | ⟨w, _⟩
        · have w : kd = 0 ∨ kd = 1 ∨ kd = 2 ∨ kd = 8 := w
          rw [ek] at w; exact absurd w (by decide)
        · exact w
        · have w : kd = 4 := w
          rw [ek] at w; exact absurd w (by decide)
        · have w : kd = 5 ∨ kd = 6 ∨ kd = 7 := w
          rw [ek] at w; exact absurd w (by decide)
      have hb : hB g i j := fun e => by
        rcases (hE i j hi hj).2 e with w | w | w
        · rw [hik] at w; exact absurd w (by decide)
        · rw [hjk] at w; exact absurd w (by decide)
        · exact w x (h.1.2.2.2.1.fd ⟨_, mn, b5, e3, hmn, Or.inl ⟨k1, ta, k, f, k2, k3.2.1, hlt, x1⟩⟩) kd o (by rw [← ej]; exact h.1.2.2.2.1.ty hty) (Or.inl ek)
      obtain ⟨d1, d2⟩ := noC_dn hW hi hj hno hb
      refine Rt.bd (oR_mk (v := some ta) b2 b5 k2) (Rt.bd (aQ_n (h.1.1.L k3.1.1) k3.2.1 (show k < 13 by omega) (by decide)) ?_)
      rw [x1]
      refine Rt.bd (oI_mk t3 t4 (v := ix) rfl) ?_
      rw [ej] at hty ⊢
      refine Rt.bd (hD.it h.1.1 hj) (Rt.bn (hV j S1 hj hjk d1 d2 h (fun a ha hk hn => hQ a ha hk (by omega))) (fun S2 r q => ?_))
      obtain ⟨q1, q2, q3, q4, n2, q5, q6⟩ := q
      rw [q5]
      have hji : i ≠ j := fun e => by subst e; omega
      refine h57 S2 n2 q1 (hQ.up d2 q2 q3 q4) ?_ (fun a ha e hn => (q3 a ha (fun e2 => by subst e2; omega) (by omega)).trans (hFr a ha e hn)) (hLM.tr (q4 _)) ⟨kd, _, o, (q4 0).2.2 _ _ _ _ hty, Or.inl ⟨ek, j, hj, rfl, hjk, d2, q6⟩⟩
      exact ⟨f0, gs9, taP, fP, wP, p1, p2, p3, fun l hl => by obtain ⟨x9, i1, i2⟩ := p4 l hl; exact ⟨x9, i1, i2.mo (q4 _)⟩, p5, (q3 i hi hji (by omega)).trans p6, p7⟩
    · rw [hik] at k1; exact absurd k1 (by decide)
    · rw [hik] at k1; exact absurd k1 (by decide)
/-- leavesOfItem -/
theorem lvi_ (hD : RDI R) (hc : c ≤ 1990) (hW : wC R.im R.im g) (hE : ∀ a b : Nat, a < R.im → b < R.im → eD R S g a b) {z : Int32} : ∀ (d i : Nat) (S1 : Sg), hN g i R.im < d → i < R.im → R.ik i = 10 → noC R.im g i → LVP R c nv S g z S1 → LQ9 R S g (hN g i R.im + 1) S1 → Rt (f_leavesOfItem R.K d S1 (some (R.ws i))) (LVR R c nv S g z i S1)
  | 0, i, S1, h1, _, _, _, _, _ => by omega
  | d + 1, i, S1, h1, hi, hik, hno, h, hQ => by
    obtain ⟨b1, b2, b3, fs9, gs9, b4, b5, b6, b7, b8, b9, b10, b11⟩ := hD.ob h.1.1 hi
    obtain ⟨fsu, u, u1, u2, u3⟩ := hQ i hi hik (by omega)
    have hm : ∃ mn : Nat, mn ≤ 12 ∧ ∀ fs : List Value, ZF R.S (R.ws i) = .inr (16, fs) → fs[3]? = some (.int (nI mn)) := by
      obtain ⟨a1, a2, fs, mn2, na, g9, a3, a4, a5, a6, _⟩ := h.1.2.1 i hi
      refine ⟨mn2, a6, fun fs0 e => ?_⟩
      have ee : gs9 = fs := (Prod.mk.inj (Sum.inr.inj (b5.symm.trans a3))).2
      subst ee
      have e0 : fs9 = fs0 := (Prod.mk.inj (Sum.inr.inj (b4.symm.trans e))).2
      subst e0
      exact (b8 3 rfl).symm.trans a5
    obtain ⟨mn, m1, m2⟩ := hm
    have hmn1 := hD.m1 hi (by rw [hik]; decide) m1 m2
    unfold f_leavesOfItem
    refine Rt.bd (oI_mk b2 u1 u2) (Rt.it (fun w => ?_) (fun w => ?_))
    · subst w
      have h0 : PrL R g S S1 i 0 0 := by
        obtain ⟨f0, w1, w2⟩ := h.1.2.2.2.1.io b5
        obtain ⟨a1, a2, fs3, mn2, na, g9, a3, a4, a5, a6, a7, a8, a9, a10, a11⟩ := h.1.2.1 i hi
        have ee : gs9 = fs3 := (Prod.mk.inj (Sum.inr.inj (b5.symm.trans a3))).2
        subst ee
        rcases a11 with ⟨j1, ta, f, j2, j3⟩ | ⟨j1, _⟩ | ⟨j1, _⟩
        · exact ⟨f0, fsu, ta, f, fun _ => 0, w1, (w2 10 (by decide)).symm.trans j2, h.1.2.2.2.1.ro j3.2.1, fun l hl => absurd hl (by omega), rfl, u1, u2⟩
        · rw [hik] at j1; exact absurd j1 (by decide)
        · rw [hik] at j1; exact absurd j1 (by decide)
      exact lvi9 hD hc hW hE (fun j S2 hj hjk hjn hjm q2 q3 => lvi_ hD hc hW hE d j S2 (by omega) hj hjk hjn q2 q3) hi hik hno hmn1 m1 m2 ⟨fsu, u1, u2⟩ hQ bigN 0 0 (by unfold bigN; omega) (Nat.zero_le _) h (fun a ha hk hn => hQ a ha hk (by omega)) h0 (fun _ _ _ _ => rfl) LM.rf
    · rcases u3 with u3 | ⟨n, r1, r2, r3⟩
      · exact absurd u3 w
      · unfold f_leavesOfItem_67
        exact Rt.bd (oI_mk b2 u1 u2) (Rt.rt ⟨h, hQ, fun _ _ _ _ => rfl, fun _ => LM.rf, n, r1, r2⟩)
/-- the leaves of the first k items are told -/
def LVD (R : yR) (S : Sg) (g : Nat → Int32) (k : Nat) (S1 : Sg) : Prop := ∀ a : Nat, a < k → R.ik a = 10 → ∃ n : Nat, iLv R S1 a n ∧ EqL R g S S1 a n
/-- leaves -/
theorem lvs6 (hD : RDI R) (hc : c ≤ 1990) (hW : wC R.im R.im g) (hE : ∀ a b : Nat, a < R.im → b < R.im → eD R S g a b) (hno : ∀ a : Nat, a < R.im → R.ik a ≠ 12 → noC R.im g a) {z : Int32} : ∀ (m k : Nat) {S1 : Sg}, R.im < k + m → k ≤ R.im → LVP R c nv S g z S1 → LQ9 R S g 100 S1 → LVD R S g k S1 → Rt (f_leaves_2 R.K m S1 (nI k)) (fun S2 _ => LVP R c nv S g z S2 ∧ LVD R S g R.im S2)
  | 0, k, _, h1, h2, _, _, _ => by omega
  | m + 1, k, S1, h1, h2, q1, hQ, hL => by
    have hD0 := hD.1
    have hb : ∀ a : Nat, hN g a R.im < 100 := fun a => by have := hN_le (f := g) (i := a) R.im; omega
    unfold f_leaves_2 f_leaves_35
    rw [q1.1.1.i12 hD, nI_1]
    refine Rt.it (fun w9 => ?_) (fun w9 => ?_)
    · have e : k = R.im := by have := (nI_leI (a := R.im) (b := k) (by omega) (by omega)).mp w9; omega
      subst e
      exact Rt.rt ⟨q1, hL⟩
    have hlt : k < R.im := by
      rcases Nat.lt_or_ge k R.im with z | z
      · exact z
      · exact absurd (nI_le z (by omega)) w9
    obtain ⟨b1, b2, b3, fs9, gs9, b4, b5, b6, b7, b8, b9, b10, b11⟩ := hD.ob q1.1.1 hlt
    refine Rt.bd (hD.it q1.1.1 hlt) (Rt.bd (oI_mk b2 b5 b11) (Rt.it (fun ek => ?_) (fun ek => lvs6 hD hc hW hE hno m (k + 1) (by omega) (by omega) q1 hQ (fun a ha hk => ?_))))
    · refine Rt.bd (hD.it q1.1.1 hlt) (Rt.bn (lvi_ hD hc hW hE 80 k S1 (by have := hN_le (f := g) (i := k) R.im; omega) hlt ek (hno k hlt (by rw [ek]; decide)) q1 (fun a ha hk _ => hQ a ha hk (hb a))) (fun S2 r q2 => ?_))
      obtain ⟨u1, u2, u3, u4, n, u5, u6⟩ := q2
      have hQ2 := hQ.up (hb k) u2 u3 u4
      refine lvs6 hD hc hW hE hno m (k + 1) (by omega) (by omega) u1 hQ2 (fun a ha hk => ?_)
      by_cases e : a = k
      · subst e
        obtain ⟨fs, v, v1, v2, v3⟩ := u2 a hlt hk (by omega)
        obtain ⟨⟨fs3, y1, y2, y3⟩, s3, y4, y5, y6⟩ := u6
        have e1 : fs = fs3 := (Prod.mk.inj (Sum.inr.inj (v1.symm.trans y1))).2
        subst e1
        rcases v3 with v3 | ⟨n2, r1, r2, r3⟩
        · have := nI_ij (b := 0) (Value.int.inj (Option.some.inj (y2.symm.trans (v2.trans (by rw [v3]; rfl))))) (by omega) (by omega)
          omega
        · exact ⟨n2, r2, r3⟩
      · obtain ⟨n2, r2, r3⟩ := hL a (by omega) hk
        exact ⟨n2, (u4 100).1 a n2 (by omega) (hb a) r2, r3.mo (u4 _)⟩
    · by_cases e : a = k
      · subst e; exact absurd hk ek
      · exact hL a (by omega) hk
end LVI
end
