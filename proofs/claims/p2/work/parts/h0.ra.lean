section
variable {D : mD} {f g i j tp mln : Nat} {x : Nat → kFm} {An : Nat → lLc → Nat → Prop} {fb : Nat → Nat} {ft ff gt gf : Nat → Int32} {fc gc : Nat → Int64} {k0 : Nat → Option Nat} {k1 k2 : Nat → Int32}
/-- filled variables, where a jump leads to -/
theorem fl_J {o l : Nat} {s : List tE} (E : mEf D g) (ha : D.aa g ≤ i) (hb : i < D.bb g) (hs : D.kk g i = some s) (ho : D.FG g 0 i = nI o) (h33 : o < 33) (hl : l < 1100) (h5 : D.FG g 5 l = nI j) (hj : j < 6000) (h : ((o = 15 ∨ o = 16 ∨ o = 17 ∨ o = 18 ∨ o = 19) ∧ D.FG g 1 i = nI l) ∨ (o = 20 ∧ ∃ tc gg n9 : Nat, D.FG g 1 i = nI tc ∧ tc < 6000 ∧ D.FG g 3 i = nI n9 ∧ n9 ≤ 12 ∧ gg < n9 ∧ D.FG g 13 (tc + gg) = nI l)) (hfl : fvI D ff f g s) : ∀ s2 : List tE, D.kk g j = some s2 → fvI D ff f g s2 := fun s2 hs2 v h1 h2 =>
  ⟨e8_j E.2.1 ha hb hs ho h33 hl h5 hj hs2 h v (hfl v h1 h2).1, (hfl v h1 h2).2⟩
/-- instructions that go elsewhere -/
theorem Q_G (hO : mOk D) (kn bs : Nat) : stG (D.FG g) mln (QMd D kn g bs k0 k1 k2 mln) := by
  intro i tp ft ff fc hQ
  obtain ⟨f, x, An, fb, rfl, hf, hg, rfl, hb, hfl, hch, hA⟩ := hQ
  obtain ⟨E, En, hab, h17, hvc, h32⟩ := hO.2.2.2.2 g hg
  have hy := hO.1
  obtain ⟨s, hs, ha, hib, hi6, hN, hR, et, h33, het⟩ := mAt_b hO hg hA
  have hfl0 := hfl s hs
  have mk : ∀ (o tp2 : Nat), D.FG g 0 i = nI o → o < 33 → (o ≠ 15 ∧ o ≠ 16 ∧ o ≠ 20 ∧ o ≠ 22 ∧ o ≠ 32) → mAt D g f x An fb (i + 1) ft fc tp2 ff → QMd D (f + 1) g (fb f) k0 k1 k2 mln (i + 1) ft fc tp2 ff := fun o tp2 ho h33 hn h => QM_mk hO hf hg hb (fl_0 E ha hib hs ho h33 hn hfl0) hch (fun _ _ => rfl) h
  have mj : ∀ (o l j tp2 : Nat), D.FG g 0 i = nI o → o < 33 → l < 1100 → D.FG g 5 l = nI j → (((o = 15 ∨ o = 16 ∨ o = 17 ∨ o = 18 ∨ o = 19) ∧ D.FG g 1 i = nI l) ∨ (o = 20 ∧ ∃ tc gg n9 : Nat, D.FG g 1 i = nI tc ∧ tc < 6000 ∧ D.FG g 3 i = nI n9 ∧ n9 ≤ 12 ∧ gg < n9 ∧ D.FG g 13 (tc + gg) = nI l)) → mAt D g f x An fb j ft fc tp2 ff → QMd D (f + 1) g (fb f) k0 k1 k2 mln j ft fc tp2 ff := fun o l j tp2 ho h33 hl h5 h1 h => by
    obtain ⟨-, -, -, -, hj6, -⟩ := mAt_b hO hg h
    exact QM_mk hO hf hg hb (fl_J E ha hib hs ho h33 hl h5 hj6 h1 hfl0) hch (fun _ _ => rfl) h
  refine ⟨⟨hi6, by omega⟩, fun ho => ?_, fun ho => ?_, fun ho => ?_, fun ho => ?_, fun ho => ?_⟩
  · rcases ho with ho | ho | ho
    · exact mk 13 _ ho (by decide) (by decide) (s_fuel E hA (Or.inr (Or.inl ho)))
    · exact mk 14 _ ho (by decide) (by decide) (s_fuel E hA (Or.inr (Or.inr ho)))
    · exact mk 23 _ ho (by decide) (by decide) (s_fuel E hA (Or.inl ho))
  · rcases ho with ho | ho
    · obtain ⟨l, j, q1, q2, q3, q4⟩ := s_jmp E hA (Or.inr ho)
      exact ⟨l, j, q1, q2, q3, mj 15 l j _ ho (by decide) q1 q3 (Or.inl ⟨by omega, q2⟩) q4⟩
    · obtain ⟨l, j, q1, q2, q3, q4⟩ := s_jmp E hA (Or.inl ho)
      exact ⟨l, j, q1, q2, q3, mj 16 l j _ ho (by decide) q1 q3 (Or.inl ⟨by omega, q2⟩) q4⟩
  · obtain ⟨q0, q9, l, j, q1, q2, q3, q4⟩ := s_unl E hA ho
    exact ⟨q0, mk 17 _ ho (by decide) (by decide) q9, l, j, q1, q2, q3, mj 17 l j _ ho (by decide) q1 q3 (Or.inl ⟨by omega, q2⟩) q4⟩
  · obtain ⟨q0, q9, l, j, q1, q2, q3, q4⟩ := s_and E hA ho
    rcases ho with ho | ho
    · exact ⟨q0, mk 18 _ ho (by decide) (by decide) q9, l, j, q1, q2, q3, mj 18 l j _ ho (by decide) q1 q3 (Or.inl ⟨by omega, q2⟩) q4⟩
    · exact ⟨q0, mk 19 _ ho (by decide) (by decide) q9, l, j, q1, q2, q3, mj 19 l j _ ho (by decide) q1 q3 (Or.inl ⟨by omega, q2⟩) q4⟩
  · obtain ⟨tc, gg, l, j, q1, ⟨q2, n9, n1, n2, n3⟩, q3, q4, q5, q6, q7, q8⟩ := s_swi E hy hA ho
    refine ⟨tc, gg, l, j, q1, q3, q4, q5, q6, ?_, mj 20 l j _ ho (by decide) q5 q6 (Or.inr ⟨rfl, tc, gg, n9, q1, by omega, n1, n2, n3, q4⟩) q8⟩
    rcases q7 with ⟨sz, w1, w2, w3, w4, w5⟩ | ⟨w1, w2, ad, w3, w4, w5⟩
    · exact Or.inl ⟨sz, w1, w2, w3, w4, i32_n w5 (by omega)⟩
    · exact Or.inr ⟨w1, w2, ad, i32_n w3 (by omega), by omega, i32_n w5 (by omega)⟩
/-- what is matched by a reference leads to a place below the top -/
theorem kS_mark {y : qY} {z : qZ} {vt vo : Nat → Nat → Nat} {vc : Nat → Nat} {tb : Nat → lTb} {hp top q r0 m : Nat} {tk : Nat → Prop} {c : Nat → Int} {fil : Nat → Nat → Nat → Prop} {r : List tE} (hy : kYs y z vt vo vc) (h : kS y z vt vo vc tb hp tk c f x fb top fil) (hq : q = 5 ∨ q = 6) (hS : (x f).2.1 = (q, r0, m) :: r) : ∃ ad : Nat, c (fb f + vc (x f).1 + khs z r) = (ad : Int) ∧ ad < top := by
  obtain ⟨rt, ra, V, hJ, hL⟩ := h
  have hf := Nat.le_refl f
  have hmem : (q, r0, m) ∈ (x f).2.1 := by rw [hS]; exact List.mem_cons_self ..
  have pm : ∃ (a0 : Nat × Nat) (π : lLc), kR (x f) 300 = some (a0 :: π) ∧ ∃ w : Nat × Nat, V a0 π = some w := by
    rcases hq with rfl | rfl
    · obtain ⟨a0, π, p1, -, -, e, -⟩ := ((hJ.2.2.2.2.2.2.2.1 f hf r0 m).1 hmem).2
      exact ⟨a0, π, p1, _, e⟩
    · obtain ⟨a0, π, p1, -, -, e, -⟩ := ((hJ.2.2.2.2.2.2.2.1 f hf r0 m).2 hmem).2
      exact ⟨a0, π, p1, _, e⟩
  obtain ⟨a0, π, p1, w, e⟩ := pm
  have hK := hJ.2.2.2.2.1 f hf
  rw [hS] at hK
  have hw3 : ∃ w : Nat × Nat, V (f, 300) [] = some w := by
    rcases hq with rfl | rfl
    · exact hK.1.2
    · exact hK.1.2
  have hA := hL.2.2.1 f hf
  rw [hS] at hA
  have a1 : ra (f, 300) = fb f + vc (x f).1 + khs z r := by
    rcases hq with rfl | rfl
    · exact hA.1
    · exact hA.1
  have hla := hL.2.1 f hf 300 _ (Or.inr rfl) p1 hw3
  exact ⟨qA y z c (rt a0) (ra a0) π, by rw [← a1]; exact hla, kLt hy hJ hL e⟩
/-- a type that is dropped is no reference -/
theorem ad_N {F X : tF} {yp yt T : Nat} (tb : tbO F X yp yt) (hT : tyV yp yt (F 20) T) (h : F 23 T ≠ 0) : tyN yp (F 20) T := by
  rcases hT.1 with q | ⟨q1, q2⟩
  · exact q
  · obtain ⟨-, -, h3, -⟩ := tb.1.2.2.2.2.2.2.2.1 T q1 hT.2
    have h3 : F 23 T = if F 20 T = 4 then 1 else 0 := h3
    rw [if_neg (by rcases q2 with q | q <;> (rw [q]; decide))] at h3
    exact absurd h3 h
end
