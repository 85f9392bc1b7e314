def hBl (F : tF) (k : Nat → Option (List tE)) (a b l : Nat) : Prop := 54 ≤ l ∨ isB F k a b l
/-- what is held at i, out of Loans' last pass -/
def HLt (F : tF) (k : Nat → Option (List tE)) (a b n : Nat) (h : Nat → lnT) (i u l : Nat) : Prop := hBl F k a b l ∧ ((u < n ∧ lbit (cS F (fun j => lnp (h j)) i u) l = true) ∨ (40 ≤ u ∧ u < 300 ∧ lbit (lnF (h i) (u - 40)) l = true) ∨ (u = 300 ∧ ∃ (s : List tE) (q r m : Nat), k i = some s ∧ (q, r, m) ∈ s ∧ (q = 5 ∨ q = 6) ∧ (m % 64 = 0 ∨ ∃ c : Nat, c < 54 ∧ m % 64 = c + 1 ∧ lbit (lnB (h i) c) l = true)))
def lnkT (F : tF) (k : Nat → Option (List tE)) (a b n : Nat) (h : Nat → lnT) (hU : Nat → fuT) : lK := (HLt F k a b n h, fun i u => lbit (hU i).1 u = true ∧ (F 20 (cN (F 15 u)) = 5 ∨ F 20 (cN (F 15 u)) = 6), fun i => a ≤ i ∧ i < b ∧ ∃ p : Nat, crn F k h a p i)
/-- what else is known of the function -/
def lnZ (F X : tF) (G : Nat → Nat → Nat) (a b : Nat) (k : Nat → Option (List tE)) (C : lnC) (Q : lnQ) (yp yt : Nat) : Prop :=
  tbO F X yp yt ∧ (∀ w : Nat, w < 40 → F 15 w ≠ -1 → ∃ T0 : Nat, F 15 w = nI T0 ∧ tyV yp yt (F 20) T0) ∧
  (∃ (pof : Nat → Int32) (lon : Nat → Int64), (C.2.2.2.1, C.2.1, C.2.2.1) = gaS F pof lon a (b - a)) ∧
  (∀ i : Nat, a ≤ i → i < b → F 0 i = 4 → ∃ p v l : Nat, F 1 i = nI p ∧ p < 3001 ∧ F 6 p = nI v ∧ v < 40 ∧ F 2 i = nI l ∧ l < 54) ∧
  (∀ i j : Nat, a ≤ i → i < b → a ≤ j → j < b → F 0 i = 4 → F 0 j = 4 → F 2 i = F 2 j → i = j) ∧
  (∀ j l : Nat, a ≤ j → j < b → F 0 j = 4 → F 2 j = nI l → l < 54 → l < C.2.2.2.2.1) ∧
  C.2.2.2.2.1 ≤ 54 ∧ k b = none ∧ (∀ t : Nat, t < yt → Q.1 t = F 20 t) ∧ (∀ v : Nat, v < C.2.2.2.2.2 → Q.2.1 v = F 15 v ∧ Q.2.2.1 v = F 18 v ∧ Q.2.2.2.1 v = F 19 v) ∧
  (∀ v : Nat, v < 40 → F 15 v ≠ -1 → v < C.2.2.2.2.2) ∧ (∀ v i : Nat, v < 40 → i < 6000 → F 18 v = nI i → v < C.2.2.2.2.2) ∧
  (∀ g : Nat, g < 40 → G g 1 < 3040 → g < Q.2.2.2.2.2.1 ∧ Q.2.2.2.2.2.2.1 g 5 = nI (G g 1) ∧ G g 1 < yt)
section
variable {F X : tF} {G : Nat → Nat → Nat} {rs a b yp yt : Nat} {k : Nat → Option (List tE)} {C : lnC} {Q : lnQ} {h : Nat → lnT} {hU : Nat → fuT} {i o p : Nat} {s : List tE}
theorem ft_b (w : lnW F X G rs a b k C Q h) (hkb : k b = none) (hi : a ≤ i) (hb : i < b) (hs : k i = some s) (ho : F 0 i = nI o) (h33 : o < 33) (hn : nu o ∨ o = 13 ∨ o = 14) : i + 1 < b ∧ ∃ r : List tE, k (i + 1) = some r := by
  cases e9 : k (i + 1) with
  | some r =>
    refine ⟨?_, r, rfl⟩
    rcases Nat.lt_or_ge (i + 1) b with q | q
    · exact q
    · rw [show i + 1 = b by omega, hkb] at e9; simp at e9
  | none =>
    exfalso
    have q := iOp_nx e9 o (ce_op w.ce hi hb hs ho h33)
    rcases hn with hn | hn
    · rcases q with z | z | z | z
      · exact hn.1 z
      · exact hn.2.1 z
      · exact hn.2.2.1 z
      · exact hn.2.2.2 z
    · omega
/-- an instruction that the next one follows -/
theorem ft_n (w : lnW F X G rs a b k C Q h) (h54 : C.2.2.2.2.1 ≤ 54) (hf : (h b).2.2.2.2.2.1 < 0) (hkb : k b = none) (hi : a ≤ i) (hb : i < b) (hc : crn F k h a p i) (hs : k i = some s) (ho : F 0 i = nI o) (h33 : o < 33) (hl : ¬ isL (F 0 i)) : lnN (h i) = wl s ∧ wl s ≤ 211 ∧ lnLk F C Q i (h i) (h (i + 1)) o ∧ lnO F C Q i (h i) o ∧ cS F (fun j => lnp (h j)) i = (h i).1 ∧ po F G i o ≤ wl s ∧ (∀ m : Nat, m < wl s - po F G i o → lnF (h (i + 1)) m = lnF (h i) m) ∧ (psh o = 1 → ∃ x : Int64, psR (lnF (h i)) (lnN (h i) - po F G i o) x (lnF (h (i + 1))) (lnN (h (i + 1)))) ∧ cA F (fun j => lnp (h j)) i ∧ (nu o → i + 1 < b ∧ crn F k h a p (i + 1) ∧ ∀ v l : Nat, v < C.2.2.2.2.2 → lbit ((h (i + 1)).1 v) l = true → lbit (cS F (fun j => lnp (h j)) (i + 1) v) l = true) := by
  obtain ⟨c1, s2, c2, c3⟩ := crn_T w (i - p) i (by have := hc.2.1; omega) hb hc
  obtain rfl : s = s2 := some_i (hs.symm.trans c2)
  have hal : (h i).2.2.2.1 ≠ 0 := (cA_n (h := fun j => lnp (h j)) hl).mp c1
  obtain ⟨o2, h332, ho2, q1, q2, q3, q4, q5⟩ := lnW_1 w hi hb hl hal hs
  obtain rfl : o = o2 := nI_33 h33 h332 (ho.symm.trans ho2)
  obtain ⟨-, q6⟩ := lnW_O w h54 hf hi hb hl c1 ho h33
  have hv : wl s ≤ 211 := Nat.le_trans wl_vl_le (w.v211 i s hi hb hs)
  refine ⟨c3, hv, q1, q6, cS_n (h := fun j => lnp (h j)) hl, q2, fun m hm => ?_, fun q => ?_, c1, fun hn => ?_⟩
  · rcases q5 with ⟨-, -, q⟩ | ⟨-, x, q⟩
    · rw [q]
    · rcases q with ⟨-, -, q⟩ | ⟨-, -, q⟩
      · rw [q, pk_uLn (by omega)]
      · rw [q]
  · rcases q5 with ⟨z, -⟩ | ⟨-, z⟩
    · omega
    · exact z
  · obtain ⟨b1, r, b2⟩ := ft_b w hkb hi hb hs ho h33 (Or.inl hn)
    obtain ⟨f1, f2⟩ := c_fall (le := lS) (h := fun j => lnp (h j)) lS_rf (lnW_p w) (ce_lb w.ce) hi b1 c1 (fun _ => ⟨o, h33, ho, hn⟩)
    refine ⟨b1, ⟨hc.1, by have := hc.2.1; omega, hc.2.2.1, hc.2.2.2.1, fun m m1 m2 => ?_⟩, fun v l hv9 hb9 => lS_b (f2 v hv9) hb9⟩
    by_cases e : m = i
    · rw [e]; exact Or.inr ⟨o, h33, ho, hn⟩
    · exact hc.2.2.2.2 m m1 (by omega)
/-- the same behind it, but for some variables -/
theorem ft_k (w : lnW F X G rs a b k C Q h) (h54 : C.2.2.2.2.1 ≤ 54) (hf : (h b).2.2.2.2.2.1 < 0) (hkb : k b = none) (hi : a ≤ i) (hb : i < b) (hc : crn F k h a p i) (hs : k i = some s) (ho : F 0 i = nI o) (h33 : o < 33) (hl : ¬ isL (F 0 i)) (hn : nu o) {E : Nat → Prop} {m : Nat} (hm : m ≤ wl s - po F G i o) (hE : ∀ u : Nat, u < C.2.2.2.2.2 → ¬ E u → (h (i + 1)).1 u = (h i).1 u) (hU1 : ∀ u : Nat, u < 40 → ¬ E u → lbit (hU (i + 1)).1 u = true → lbit (hU i).1 u = true) : lkp (lnkT F k a b C.2.2.2.2.2 h hU) i (i + 1) m E := by
  obtain ⟨n1, n2, n3, n4, n5, n6, n7, n8, n9, n10⟩ := ft_n w h54 hf hkb hi hb hc hs ho h33 hl
  obtain ⟨m1, m2, m3⟩ := n10 hn
  have h40 := w.n40
  refine ⟨⟨by omega, m1, p, m2⟩, fun u l hu hw9 hH => ?_, fun u u4 hu hb9 => ⟨hU1 u u4 hu hb9.1, hb9.2⟩⟩
  obtain ⟨g1, g2⟩ := hH
  refine ⟨g1, ?_⟩
  rcases g2 with ⟨g2, g3⟩ | ⟨g2, g3, g4⟩ | ⟨g2, g3⟩
  · left
    refine ⟨g2, m3 u l g2 ?_⟩
    rw [hE u g2 hu]
    rw [n5] at g3
    exact g3
  · right; left
    refine ⟨g2, g3, ?_⟩
    rw [n7 (u - 40) (by omega)]; exact g4
  · clear g3
    omega
theorem isL_o (ho : F 0 i = nI o) (h33 : o < 33) (hn : o ≠ 13 ∧ o ≠ 14) : ¬ isL (F 0 i) := fun q => by
  rw [ho] at q
  rcases isL_nI h33 q with z | z
  · exact hn.1 z
  · exact hn.2 z
theorem fu_up (ht : ∀ i : Nat, a ≤ i → i < b → fuR F i (hU (i + 1)) (hU i)) (hi : a ≤ i) (hb : i < b) (ho : F 0 i = nI o) (h33 : o < 33) : (hU i).1 = uaF F (hU (i + 1)).2.1 i (hU (i + 1)).1 o := by
  obtain ⟨o2, ho2, h332, e9⟩ := ht i hi hb
  obtain rfl : o = o2 := nI_33 h33 h332 (ho.symm.trans ho2)
  rw [e9]
/-- a label -/
theorem ft_l (w : lnW F X G rs a b k C Q h) (ht : ∀ i : Nat, a ≤ i → i < b → fuR F i (hU (i + 1)) (hU i)) (hkb : k b = none) (hi : a ≤ i) (hb : i < b) (hc : crn F k h a p i) (hs : k i = some s) (ho : F 0 i = nI o) (h33 : o < 33) (ho2 : o = 13 ∨ o = 14) : lkp (lnkT F k a b C.2.2.2.2.2 h hU) i (i + 1) (wl s) (fun _ => False) ∧ ∀ l : Nat, (lnkT F k a b C.2.2.2.2.2 h hU).1 i 300 l → (lnkT F k a b C.2.2.2.2.2 h hU).1 (i + 1) 300 l := by
  have hl : isL (F 0 i) := by
    rw [ho]; rcases ho2 with rfl | rfl
    · exact Or.inl rfl
    · exact Or.inr rfl
  obtain ⟨c1, s2, c2, c3⟩ := crn_T w (i - p) i (by have := hc.2.1; omega) hb hc
  obtain rfl : s = s2 := some_i (hs.symm.trans c2)
  obtain ⟨b1, -⟩ := ft_b w hkb hi hb hs ho h33 (Or.inr ho2)
  have hsn : k (i + 1) = some s := ce_l w.ce hi hb hl hs
  obtain ⟨f1, f2⟩ := c_fall (le := lS) (h := fun j => lnp (h j)) lS_rf (lnW_p w) (ce_lb w.ce) hi b1 c1 (fun q => absurd hl q)
  have e5 : (h (i + 1)).2.2.2.2 = (h i).2.2.2.2 := by
    obtain ⟨o3, ho3, h333, hr⟩ := w.tr i hi hb
    rcases hr with ⟨hl2, L, l1, l2, l3, l4, l5, hr⟩ | ⟨n13, n14, hr⟩
    · exact l5
    · obtain rfl : o = o3 := nI_33 h33 h333 (ho.symm.trans ho3)
      omega
  have eF : lnF (h (i + 1)) = lnF (h i) := by unfold lnF; rw [e5]
  have eB : lnB (h (i + 1)) = lnB (h i) := by unfold lnB; rw [e5]
  have eS : cS F (fun j => lnp (h j)) i = (h (i + 1)).1 := cS_l (h := fun j => lnp (h j)) hl
  have hcr : crn F k h a p (i + 1) := ⟨hc.1, by have := hc.2.1; omega, hc.2.2.1, hc.2.2.2.1, fun m m1 m2 => by
    by_cases e : m = i
    · rw [e]; exact Or.inl hl
    · exact hc.2.2.2.2 m m1 (by omega)⟩
  have hv : wl s ≤ 211 := Nat.le_trans wl_vl_le (w.v211 i s hi hb hs)
  have h40 := w.n40
  have key : ∀ u l : Nat, HLt F k a b C.2.2.2.2.2 h i u l → HLt F k a b C.2.2.2.2.2 h (i + 1) u l := fun u l hH => by
    obtain ⟨g1, g2⟩ := hH
    refine ⟨g1, ?_⟩
    rcases g2 with ⟨g2, g3⟩ | ⟨g2, g3, g4⟩ | ⟨g2, s3, q, r, m, g3, g4, g5, g6⟩
    · rw [eS] at g3
      exact Or.inl ⟨g2, lS_b (f2 u g2) g3⟩
    · exact Or.inr (Or.inl ⟨g2, g3, by rw [eF]; exact g4⟩)
    · refine Or.inr (Or.inr ⟨g2, s3, q, r, m, ?_, g4, g5, by rw [eB]; exact g6⟩)
      rw [hsn, ← hs]; exact g3
  refine ⟨⟨⟨by omega, b1, p, hcr⟩, fun u l _ _ => key u l, fun u u4 _ hb9 => ?_⟩, fun l => key 300 l⟩
  refine ⟨?_, hb9.2⟩
  have hb9 : lbit (hU (i + 1)).1 u = true := hb9.1
  rw [fu_up ht hi hb ho h33]
  have : uaF F (hU (i + 1)).2.1 i (hU (i + 1)).1 o = (hU (i + 1)).1 := by
    rcases ho2 with rfl | rfl <;> rfl
  rw [this]; exact hb9
/-- accesses that nothing was told of -/
theorem ft_ck (w : lnW F X G rs a b k C Q h) (zz : lnZ F X G a b k C Q yp yt) (hub : C.1 i = (hU (i + 1)).1) (hi : a ≤ i) (hb : i < b) (hl : ¬ isL (F 0 i)) {q v n T tn : Nat} {pa ro mu ms : Int32} (hpl : plI F X q v n T pa ro mu) (hac : acO F C i q v ms (h i).1 (lnF (h i)) tn) (htn : tn ≤ 211) : lCk (tbF F C.2.2.2.1 C.2.2.1) ((lnkT F k a b C.2.2.2.2.2 h hU).1 i) (a2N (lnkT F k a b C.2.2.2.2.2 h hU) (i + 1) tn) v (wyF F q) (ms = 0) := by
  obtain ⟨z1, z2, ⟨pof, lon, z3⟩, z4, z5, z6, z7, z8, z9, z10, z11, z12, z13⟩ := zz
  have hv4 : v < 40 := hpl.2.1
  have hne : F 15 v ≠ -1 := pl_ne n pa ro T mu hpl.2.2.2.1 hpl.2.2.2.2.2.2.2.2.2.2
  obtain ⟨T0, e1, e2⟩ := z2 v hv4 hne
  obtain ⟨ds, os, o9, g1, -⟩ := pG_of z1 e1 e2 hpl
  have eS : cS F (fun j => lnp (h j)) i = (h i).1 := cS_n (h := fun j => lnp (h j)) hl
  have h40 := w.n40
  refine ck_of w.ce (by omega) z1 z2 z3 z4 z5 z6 g1 hac (fun u l hu hH => ?_) (fun u l _ hH => hH.1)
  obtain ⟨-, g2⟩ := hH
  rcases g2 with ⟨g2, g3⟩ | ⟨g2, g3, g4⟩ | ⟨g2, -⟩
  · right
    refine ⟨u, g2, ?_, by rw [← eS]; exact g3⟩
    rcases hu with ⟨-, hu⟩ | ⟨hu, -⟩
    · rw [hub]; exact hu.1
    · omega
  · left
    refine ⟨u - 40, ?_, g4⟩
    rcases hu with ⟨hu, -⟩ | ⟨-, hu⟩
    · omega
    · omega
  · rcases hu with ⟨hu, -⟩ | ⟨-, hu⟩
    · omega
    · omega
end
