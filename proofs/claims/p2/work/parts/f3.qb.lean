/-- the outer loan of a parameter -/
def ouF (pl : Nat → Nat → Int32) (g q : Nat) : Nat := if pl g q < 0 then 62 else 54 + cN (pl g q)
/-- how a function begins -/
def enF (y : qY) (z : qZ) (F : tF) (G : Nat → Nat → Nat) (yp yt a : Nat) (k : Nat → Option (List tE)) (N : lK) (Rm : Nat → Prop) (tb : lTb) (rl : Nat → Int32) (pl : Nat → Nat → Int32) (me : Int32) (vt vo : Nat → Nat → Nat) (g : Nat) : Prop :=
  ∃ P : List tE, k a = some P ∧ (∀ e : tE, e ∈ P ↔ ∃ v : Nat, e = (8, v, 0) ∧ v < G g 0) ∧ G g 0 ≤ 12 ∧ N.2.2 a ∧ Rm a ∧
  (∀ q : Nat, q < G g 0 → tyV yp yt (F 20) (G g (q + 2)) ∧ vt g q = ymF F (G g (q + 2)) ∧ vo g q = psum z (vt g) q) ∧
  (∀ q : Nat, q < G g 0 → tb.2.2.2.1 (ouF pl g q) ∧ ((y.1 (vt g q) = 5 ∨ y.1 (vt g q) = 6) → N.1 a q (ouF pl g q)) ∧ (pl g q < 0 ∨ ∃ w : Nat, w < 8 ∧ pl g q = nI w)) ∧
  (rl g < 0 ∨ ∃ w : Nat, w < 8 ∧ rl g = nI w) ∧ me = rl g
/-- a frame that waits for a call's end -/
def Cf (N : lK) (L : Nat → Nat → lLc → Prop) (g i : Nat) (r : List tE) (n : Nat) (R : Nat → Option lLc) (An : Nat → lLc → Nat → Prop) : kFm := (g, r, n, R, N.1 i, (fun u => u < 40 ∧ N.2.1 (i + 1) u ∧ ¬ L (i + 1) u []), L (i + 1), An)
section
variable {y : qY} {z : qZ} {vt vo : Nat → Nat → Nat} {vc : Nat → Nat} {tb : Nat → lTb} {hp : Nat} {tk tk2 : Nat → Prop} {c c2 : Nat → Int} {f g i j : Nat} {x : Nat → kFm} {An : Nat → lLc → Nat → Prop} {fb : Nat → Nat} {top top2 : Nat} {fil fil2 : Nat → Nat → Nat → Prop} {N : lK} {L : Nat → Nat → lLc → Prop} {Rm : Nat → Prop} {F X : tF} {G : Nat → Nat → Nat} {rs a b n yp yt : Nat} {k : Nat → Option (List tE)} {rl : Nat → Int32} {pl : Nat → Nat → Int32} {me : Int32} {s s2 : List tE} {R R2 : Nat → Option lLc} {g2 a2 b2 : Nat} {k2 : Nat → Option (List tE)} {N2 : lK} {L2 : Nat → Nat → lLc → Prop} {Rm2 : Nat → Prop} {F2 : tF} {me2 : Int32}
/-- CALL -/
theorem s_call (E : sgE y z F X G rs a b n yp yt k N L Rm (tb g) rl pl me (vt g)) (hy : kYs y z vt vo vc) (h : At y z vt vo vc tb hp a b k N L Rm g f x An fb i tk c top fil) (ho : F 0 i = nI 21) (hg1 : F 1 i = nI g2) (hg40 : g2 < 40) (hb2 : a2 < b2) (en : enF y z F G yp yt a2 k2 N2 Rm2 (tb g2) rl pl me2 vt vo g2) : psum z (vt g2) (G g2 0) ≤ top ∧ ∃ (r : List tE) (R : Nat → Option lLc), k i = some (tAs F G g2 (G g2 0) ++ r) ∧ k (i + 1) = some (tNf F (G g2 1) :: r) ∧ N.2.2 i ∧ Rm i ∧ a ≤ i ∧ i < b ∧ wl r < 211 ∧ top = fb f + vc g + khs z r + psum z (vt g2) (G g2 0) ∧ ∀ fil2 : Nat → Nat → Nat → Prop, (∀ j : Nat, j ≤ f → fil2 j = fil j) → At y z vt vo vc tb hp a2 b2 k2 N2 L2 Rm2 g2 (f + 1) (kUx x f (Cf N L g i r (G g2 0) R An)) (kAo y (vt g2) R (wl r) (G g2 0) (ouF pl g2)) (fun j => if j = f + 1 then top - psum z (vt g2) (G g2 0) else fb j) a2 tk c (top - psum z (vt g2) (G g2 0) + vc g2) fil2 := by
  obtain ⟨s, R, hs, ha, hb, hN, hR, hk⟩ := h
  obtain ⟨g9, r, ⟨q1, q2⟩, q3, rfl, h1⟩ := ce_op E.2.1 ha hb hs ho (by decide)
  obtain rfl : g2 = g9 := (nI_eq (by omega) (by omega)).mp (hg1.symm.trans q3)
  obtain ⟨P, p1, p2, p3, p4, p5, p6, p7, p8, p9⟩ := en
  obtain ⟨y0, y1, y2, y3, z1, z2, z3⟩ := sg_p E
  obtain ⟨e1, e2⟩ := E.2.2.2.2.2.2.2.1 i 21 _ ha hb hs ho (by decide) hN hR
  obtain ⟨hlk, hres⟩ := e1.2.2.2.2.2.2.2.2.2.2.2.1 rfl g2 hg1 hg40
  have hmk := e2.2.1 (by omega)
  have hRm := e2.1 (by omega)
  have hj := E.2.2.2.2.2.2.2.2.2.2.2.1.2 (i + 1) hRm
  have hv1 := E.2.2.1 (i + 1) _ hj.1 hj.2 h1
  have hv := E.2.2.1 i _ ha hb hs
  have wr : wl r < 211 := wl_nx nm_t hv1
  -- the exact entries
  have ent : ∀ q : Nat, q < G g2 0 → ∃ e : tE, (tNf F (G g2 (q + 2)) = e ∨ (tNf F (G g2 (q + 2)) = (0, 1, 0) ∧ e = (0, 3, 0))) ∧ ((e = (0, vt g2 q, 0) ∧ vt g2 q ≠ 0 ∧ y.1 (vt g2 q) ≠ 5 ∧ y.1 (vt g2 q) ≠ 6) ∨ ∃ U : Nat, U < 10000 ∧ ((e = (1, U, 0) ∧ vt g2 q = 10000 + 2 * U) ∨ (e = (2, U, 0) ∧ vt g2 q = 10001 + 2 * U))) ∧ kes z e = z.1 (vt g2 q) := fun q hq => by
    obtain ⟨t1, t2, -⟩ := p6 q hq
    have kk := sg_k E t1
    by_cases c5 : F 20 (G g2 (q + 2)) = 5
    · obtain ⟨U, u1, u2, u3, u4, u5, u6⟩ := kk.1 c5
      refine ⟨(1, U, 0), Or.inl u6, Or.inr ⟨U, u2, Or.inl ⟨rfl, by rw [t2, u5]⟩⟩, ?_⟩
      rw [sg_z4 E _ (Or.inr (by rw [t2]; exact kk.2.2.1.mpr (Or.inl c5)))]; rfl
    · by_cases c6 : F 20 (G g2 (q + 2)) = 6
      · obtain ⟨U, u1, u2, u3, u4, u5, u6⟩ := kk.2.1 c6
        refine ⟨(2, U, 0), Or.inl u6, Or.inr ⟨U, u2, Or.inr ⟨rfl, by rw [t2, u5]⟩⟩, ?_⟩
        rw [sg_z4 E _ (Or.inr (by rw [t2]; exact kk.2.2.1.mpr (Or.inr c6)))]; rfl
      · have em : ymF F (G g2 (q + 2)) = G g2 (q + 2) := by unfold ymF; rw [if_neg c5, if_neg c6]
        have n0 : vt g2 q ≠ 0 := by rw [t2]; exact ymF_0 E.1.1 t1
        have n56 : ¬ (y.1 (vt g2 q) = 5 ∨ y.1 (vt g2 q) = 6) := fun z9 => by
          rw [t2] at z9
          exact (kk.2.2.1.mp z9).elim c5 c6
        refine ⟨(0, vt g2 q, 0), ?_, Or.inl ⟨rfl, n0, fun z9 => n56 (Or.inl z9), fun z9 => n56 (Or.inr z9)⟩, if_neg n0⟩
        rw [t2, em]
        by_cases c3 : G g2 (q + 2) = 3
        · right; rw [c3]; exact ⟨tNf_3, rfl⟩
        · left; exact tNf_u c3 c5 c6
  have ex2 : ∃ e2 : Nat → tE, ∀ q : Nat, q < G g2 0 → (tNf F (G g2 (q + 2)) = e2 q ∨ (tNf F (G g2 (q + 2)) = (0, 1, 0) ∧ e2 q = (0, 3, 0))) ∧ ((e2 q = (0, vt g2 q, 0) ∧ vt g2 q ≠ 0 ∧ y.1 (vt g2 q) ≠ 5 ∧ y.1 (vt g2 q) ≠ 6) ∨ ∃ U : Nat, U < 10000 ∧ ((e2 q = (1, U, 0) ∧ vt g2 q = 10000 + 2 * U) ∨ (e2 q = (2, U, 0) ∧ vt g2 q = 10001 + 2 * U))) ∧ kes z (e2 q) = z.1 (vt g2 q) := by
    refine ⟨fun q => if hq : q < G g2 0 then Classical.choose (ent q hq) else (0, 0, 0), fun q hq => ?_⟩
    have := Classical.choose_spec (ent q hq)
    have e9 : (fun q : Nat => if hq : q < G g2 0 then Classical.choose (ent q hq) else ((0, 0, 0) : tE)) q = Classical.choose (ent q hq) := dif_pos hq
    rw [e9]
    exact this
  obtain ⟨ee, hee⟩ := ex2
  have hk1 := hk
  rw [dsl_as] at hk1
  have hk2 := kS_rtl (y := y) (z := z) (e := fun q => tNf F (G g2 (q + 2))) (e2 := ee) y1 y3 (by rw [z1, z3]) (G g2 0) (P := []) (S := r) (fun q hq => (hee q hq).1) (by rw [kUx_eq]; rfl) hk1
  rw [kUx_eq, kUx2] at hk2
  have hk2 : kS y z vt vo vc tb hp tk c f (kUx x f (Fr N L g i (dsl ee (G g2 0) ++ r) R An)) fb top fil := hk2
  have nme : ∀ q : Nat, q < G g2 0 → kNm (ee q) := fun q hq => by
    rcases (hee q hq).2.1 with ⟨e9, -⟩ | ⟨U, -, ⟨e9, -⟩ | ⟨e9, -⟩⟩ <;> (rw [e9]; unfold kNm; simp)
  have hsz : ∀ q : Nat, q ≤ G g2 0 → khs z (dsl ee q) = psum z (vt g2) q := fun q => by
    induction q with
    | zero => intro _; rfl
    | succ q ih =>
      intro hq
      show khs z (dsl ee q) + kes z (ee q) = psum z (vt g2) q + z.1 (vt g2 q)
      rw [ih (by omega), (hee q (by omega)).2.2]
  obtain ⟨et, ew⟩ := At_s hk2
  rw [khs_app, hsz _ (Nat.le_refl _)] at et
  have hno : ∀ r9 m9 : Nat, (5, r9, m9) ∉ dsl ee (G g2 0) ++ r ∧ (6, r9, m9) ∉ dsl ee (G g2 0) ++ r := fun r9 m9 => by
    have hr := no56 (vl_no (vl_1 hv1 nm_t)) r9 m9
    refine ⟨fun q => ?_, fun q => ?_⟩
    · rcases List.mem_append.mp q with q | q
      · exact dsl_nm _ nme _ q (Or.inr (Or.inr (Or.inl rfl)))
      · exact hr.1 q
    · rcases List.mem_append.mp q with q | q
      · exact dsl_nm _ nme _ q (Or.inr (Or.inr (Or.inr rfl)))
      · exact hr.2 q
  have eA : top - psum z (vt g2) (G g2 0) = fb f + vc g + khs z r := by omega
  refine ⟨by omega, r, R, hs, h1, hN, hR, ha, hb, wr, by omega, fun fil2 hf2 => ?_⟩
  rw [eA]
  have q := kS_call (g := g2) (n := G g2 0) (e := ee) (r := r) (P := P) (al2 := fun u => u < 40 ∧ N.2.1 (i + 1) u ∧ ¬ L (i + 1) u []) (lo2 := L (i + 1)) (H' := fun u l => N2.1 a2 u l ∨ l = ouF pl g2 u) (al' := fun u => u < 40 ∧ N2.2.1 a2 u ∧ ¬ L2 a2 u []) (lo' := L2 a2) (ou := ouF pl g2) (fil2 := fil2) hy hk2 (by rw [kUx_eq]; rfl) (by rw [kUx_eq]; rfl) p3 (by rw [kUx_eq]; exact hno) (fun q hq => by
    rcases (hee q hq).2.1 with ⟨e9, n9, -⟩ | z9
    · exact Or.inl ⟨e9, n9⟩
    · exact Or.inr z9) (fun q hq => by rw [hsz q (by omega)]; exact (p6 q hq).2.2) (by rw [kUx_eq]; exact fun u q => kpA E.2.2.2.2.2.2.2.2.1 hlk hmk u (fun q => q) q) (by
    rw [kUx_eq]
    exact fun w π hn q => hn (kpL E.2.2.2.2.2.2.2.2.1 hmk w π (fun q => q) q)) p2 (fun q hq => ⟨Or.inr rfl, (p7 q hq).1⟩) hf2
  rw [kUx_eq, kUx2] at q
  have q : kS y z vt vo vc tb hp tk c (f + 1) (kUx (kUx x f (Cf N L g i r (G g2 0) R An)) (f + 1) (g2, P, 0, (fun w => if w < G g2 0 then R (40 + wl r + w) else none), (fun u l => N2.1 a2 u l ∨ l = ouF pl g2 u), (fun u => u < 40 ∧ N2.2.1 a2 u ∧ ¬ L2 a2 u []), L2 a2, kAo y (vt g2) R (wl r) (G g2 0) (ouF pl g2))) (fun j => if j = f + 1 then fb f + vc g + khs z r else fb j) (fb f + vc g + khs z r + vc g2) fil2 := q
  -- arguments that are no references lead nowhere
  have hRn : ∀ w : Nat, w < G g2 0 → (y.1 (vt g2 w) ≠ 5 ∧ y.1 (vt g2 w) ≠ 6) → R (40 + wl r + w) = none := fun w hw hn => by
    obtain ⟨rt, ra, V, hJ9, hL9⟩ := hk2
    have hK := hJ9.2.2.2.2.1 f (Nat.le_refl f)
    rw [kUx_eq] at hK
    have kp := dsl_K (G g2 0) nme hK w hw
    rcases (hee w hw).2.1 with ⟨e9, -⟩ | ⟨U, hU, ⟨-, e9⟩ | ⟨-, e9⟩⟩
    · rw [e9] at kp
      have := kp.1
      rw [Nat.add_assoc]
      exact this
    · exfalso
      rw [e9] at hn
      exact hn.1 (hy.2.2.2.1 U hU).1
    · exfalso
      rw [e9] at hn
      exact hn.2 (hy.2.2.2.1 U hU).2.2.1
  have q2 : kS y z vt vo vc tb hp tk c (f + 1) (kUx (kUx x f (Cf N L g i r (G g2 0) R An)) (f + 1) (Fr N2 L2 g2 a2 P (fun w => if w < G g2 0 then R (40 + wl r + w) else none) (kAo y (vt g2) R (wl r) (G g2 0) (ouF pl g2)))) (fun j => if j = f + 1 then fb f + vc g + khs z r else fb j) (fb f + vc g + khs z r + vc g2) fil2 := by
    refine fin q (fun u w l hu hr hh => ?_) (fun u q => q) (fun v π q => q)
    have hr : (if u < G g2 0 then R (40 + wl r + u) else none) = some w := hr
    rcases hh with hh | hh
    · exact hh
    · by_cases c9 : u < G g2 0
      · rw [if_pos c9] at hr
        by_cases c8 : y.1 (vt g2 u) = 5 ∨ y.1 (vt g2 u) = 6
        · rw [hh]; exact (p7 u c9).2.1 c8
        · rw [hRn u c9 ⟨fun z9 => c8 (Or.inl z9), fun z9 => c8 (Or.inr z9)⟩] at hr
          simp at hr
      · rw [if_neg c9] at hr; simp at hr
  exact ⟨P, _, p1, Nat.le_refl _, hb2, p4, p5, q2⟩
end
