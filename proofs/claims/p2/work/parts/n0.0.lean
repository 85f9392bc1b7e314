section LW0
variable {K : Ky} {S S1 S2 : Sg} {ln : Nat}
/-- what a call of the face but run leaves: some ints change, the text's row, the inputs' row -/
def FD9 (J : Nat → Prop) (S S2 : Sg) : Prop := (∀ j : Nat, ¬ J j → Zi S2 j = Zi S j) ∧ (∀ r : Nat, r ≠ 0 → Zr S2 r = Zr S r) ∧ (∀ r : Nat, r ≠ 85 → Zl S2 r = Zl S r) ∧ Zq S2 = Zq S ∧ Zf S2 = Zf S ∧ ZL S2 = ZL S ∧ ZF S2 = ZF S ∧ Zz S2 = Zz S ∧ Zn S2 = Zn S
theorem FD9.rf {J : Nat → Prop} : FD9 J S S := ⟨fun _ _ => rfl, fun _ _ => rfl, fun _ _ => rfl, rfl, rfl, rfl, rfl, rfl, rfl⟩
theorem FD9.tr {J : Nat → Prop} (a : FD9 J S S1) (b : FD9 J S1 S2) : FD9 J S S2 := ⟨fun j h => (b.1 j h).trans (a.1 j h), fun r h => (b.2.1 r h).trans (a.2.1 r h), fun r h => (b.2.2.1 r h).trans (a.2.2.1 r h), b.2.2.2.1.trans a.2.2.2.1, b.2.2.2.2.1.trans a.2.2.2.2.1, b.2.2.2.2.2.1.trans a.2.2.2.2.2.1, b.2.2.2.2.2.2.1.trans a.2.2.2.2.2.2.1, b.2.2.2.2.2.2.2.1.trans a.2.2.2.2.2.2.2.1, b.2.2.2.2.2.2.2.2.trans a.2.2.2.2.2.2.2.2⟩
theorem FD9.ui {J : Nat → Prop} {k : Nat} {v : Int32} (hk : J k) : FD9 J S (Ui S k v) := ⟨fun j h => Zi_n (fun e => h (e ▸ hk)), fun _ _ => rfl, fun _ _ => rfl, rfl, rfl, rfl, rfl, rfl, rfl⟩
theorem FD9.ms {J : Nat → Prop} (a : FD9 J S S2) (h : mS K S) (hq : wq S2) (h86 : ∃ c : Nat, c ≤ 60 ∧ Zi S2 86 = nI c) (h66 : ¬ J 66) : mS K S2 := ⟨hq, h86, by obtain ⟨x, b, c⟩ := h.2.2.1; exact ⟨x, b, (a.1 66 h66).trans c⟩, fun u hu => by
  rw [a.2.2.2.1, a.2.2.2.2.2.1, a.2.2.2.2.2.2.1]; exact h.2.2.2.1 u hu, fun x hx => by
  rw [a.2.2.2.2.2.1] at hx; rw [a.2.2.2.2.2.2.2.1]; exact h.2.2.2.2 x hx⟩
def xq9 : Nat → Int32
  | 0 => -8
  | k + 1 => xq9 k + 8
theorem xq9_p (k : Nat) : xq9 (k + 1) + -8 = xq9 k := by
  show xq9 k + 8 + -8 = xq9 k
  rw [Int32.add_assoc, show (8 : Int32) + -8 = 0 from by decide, Int32.add_zero]
theorem xq9_n : ∀ k : Fin 4, ¬ xq9 (k.val + 1) < 0 := by decide
def J1 (j : Nat) : Prop := j = 1
theorem fw3_ {x : Int32} : ∀ (m k : Nat) (S : Sg) (ln : Nat), k < m → k ≤ 4 → Zi S 1 = nI ln → ln + k ≤ 3000 → Rt (f_feedWord_3 K m S x (xq9 k)) (fun S2 _ => FD9 J1 S S2 ∧ Zi S2 1 = nI (ln + k))
  | 0, k, S, ln, h, _, _, _ => by omega
  | m + 1, 0, S, ln, h, _, h1, _ => by
    unfold f_feedWord_3
    exact Rt.ip (by decide) (Rt.rt ⟨FD9.rf, h1⟩)
  | m + 1, k + 1, S, ln, h, hk, h1, hl => by
    unfold f_feedWord_3
    refine Rt.iq (xq9_n ⟨k, by omega⟩) ?_
    rw [h1]
    refine Rt.bd (wRI_n (show ln < rlen 0 from by show ln < 3000; omega) (by decide)) ?_
    refine Rt.bd (v := Ui (Ur S 0 _) 1 (nI (ln + 1))) (by show some (Ui _ 1 (Zi S 1 + 1)) = _; rw [h1, nI_1]) ?_
    rw [xq9_p]
    refine (fw3_ m k _ (ln + 1) (by omega) (by omega) Zi_s (by omega)).mo (fun S2 _ q => ⟨?_, by rw [show ln + (k + 1) = ln + 1 + k by omega]; exact q.2⟩)
    have a : FD9 J1 S (Ur S 0 (upd (Zr S 0) ln ((x >>> (xq9 (k + 1) &&& 31)) &&& 255))) := ⟨fun _ _ => rfl, fun r hr => va_up_ne _ _ hr, fun _ _ => rfl, rfl, rfl, rfl, rfl, rfl, rfl⟩
    exact (a.tr (FD9.ui rfl)).tr q.1
theorem fw9_ {x : Int32} (h1 : Zi S 1 = nI ln) (hl : ln + 4 ≤ 3000) : Rt (f_feedWord K S x) (fun S2 _ => FD9 J1 S S2 ∧ Zi S2 1 = nI (ln + 4)) := by
  unfold f_feedWord
  exact fw3_ (x := x) bigN 4 S ln (by unfold bigN; omega) (Nat.le_refl _) h1 hl
/-- feed -/
theorem fed9_ {a b c d e : Int32} (h1 : Zi S 1 = nI ln) (hl : ln + 20 ≤ 3000) : Rt (f_feed K S a b c d e) (fun S2 r => r = 1 ∧ FD9 J1 S S2 ∧ Zi S2 1 = nI (ln + 20)) := by
  unfold f_feed
  have e20 : Zi S 1 + 20 = nI (ln + 20) := by rw [h1]; exact nI_add ln 20
  refine Rt.ip (by rw [e20]; exact nI_le (a := ln + 20) (b := 3000) (by omega) (by decide)) ?_
  refine Rt.bn (fw9_ h1 (by omega)) (fun Sa _ qa => ?_)
  refine Rt.bn (fw9_ qa.2 (by omega)) (fun Sb _ qb => ?_)
  refine Rt.bn (fw9_ qb.2 (by omega)) (fun Sc _ qc => ?_)
  refine Rt.bn (fw9_ qc.2 (by omega)) (fun Sd _ qd => ?_)
  refine Rt.bn (fw9_ qd.2 (by omega)) (fun Se _ qe => ?_)
  exact Rt.bd (v := ()) rfl (Rt.rt ⟨rfl, (((qa.1.tr qb.1).tr qc.1).tr qd.1).tr qe.1, qe.2⟩)
def J86 (j : Nat) : Prop := j = 86
/-- input -/
theorem inp9_ {v : Int64} (h : mS K S) : Rt (f_input K S v) (fun S2 _ => FD9 J86 S S2 ∧ mS K S2) := by
  obtain ⟨c, c1, c2⟩ := h.2.1
  unfold f_input
  refine Rt.it (fun _ => Rt.bd (v := ()) rfl (Rt.rt ⟨FD9.rf, h⟩)) (fun w => ?_)
  have hc : c < 60 := by
    rcases Nat.lt_or_ge c 60 with q | q
    · exact q
    · exact absurd (by rw [c2, show c = 60 by omega]; rfl) w
  rw [c2]
  refine Rt.bd (wJ_n (show c < rlen 85 from hc) (by decide)) ?_
  refine Rt.bd (v := Ui (Ul S 85 _) 86 (nI (c + 1))) (by show some (Ui _ 86 (Zi S 86 + 1)) = _; rw [c2, nI_1]) ?_
  refine Rt.bd (v := ()) rfl (Rt.rt ?_)
  have a : FD9 J86 S (Ul S 85 (vp_updL (Zl S 85) c v)) := ⟨fun _ _ => rfl, fun _ _ => rfl, fun r hr => va_up_ne _ _ hr, rfl, rfl, rfl, rfl, rfl, rfl⟩
  have a2 : FD9 J86 S (Ui (Ul S 85 (vp_updL (Zl S 85) c v)) 86 (nI (c + 1))) := a.tr (FD9.ui rfl)
  exact ⟨a2, a2.ms h (h.1.eq (Zi_n (by decide)) (Zi_n (by decide))) ⟨c + 1, by omega, Zi_s⟩ (by unfold J86; decide)⟩
theorem plc9_ (h : mS K S) : Rt (f_place_ K S) (fun S2 _ => S2 = S) := Rt.rt rfl
theorem cnt9_ {x : Int32} : Rt (f_count K S x) (fun S2 _ => S2 = S) := by
  unfold f_count
  refine Rt.it (fun _ => Rt.rt rfl) (fun _ => Rt.it (fun _ => Rt.rt rfl) (fun _ => Rt.it (fun _ => Rt.rt rfl) (fun _ => Rt.it (fun _ => Rt.rt rfl) (fun _ => Rt.it (fun _ => Rt.rt rfl) (fun _ => Rt.it (fun _ => Rt.rt rfl) (fun _ => Rt.rt rfl))))))
def J83 (j : Nat) : Prop := j = 83 ∨ j = 84
theorem fet25_ {l a : Nat} (ha : a ≤ 7) (hal : a ≤ l) (hl : l ≤ 4000) : ∀ (m i : Nat) (S : Sg) (f : Nat) (x : Int64), 7 < m + i → i ≤ 7 → Zi S 83 = nI f → f < 4000 → Zi S 84 = nI l → Rt (f_fetch_25 K m S (nI a) x (nI i)) (fun S2 _ => FD9 J83 S S2 ∧ wq S2)
  | 0, i, S, f, x, h, h7, _, _, _ => by omega
  | m + 1, i, S, f, x, h, h7, h83, hf, h84 => by
    unfold f_fetch_25
    refine Rt.it (fun _ => ?_) (fun w => ?_)
    · refine Rt.bd (v := Ui S 84 (nI (l - a))) (by show some (Ui S 84 (Zi S 84 - nI a)) = _; rw [h84, pk_sub hal]) ?_
      exact Rt.rt ⟨FD9.ui (Or.inr rfl), f, l - a, (Zi_n (by decide)).trans h83, hf, Zi_s, by omega⟩
    · have hi : i < 7 := by
        rcases Nat.lt_or_ge i 7 with q | q
        · exact q
        · exact absurd (nI_le (a := 7) q (by omega)) w
      refine Rt.it (fun w2 => ?_) (fun w2 => ?_)
      · unfold f_fetch_55
        refine Rt.ip w2 ?_
        unfold f_fetch_78
        rw [nI_1]
        exact fet25_ ha hal hl m (i + 1) S f _ (by omega) (by omega) h83 hf h84
      · rw [h83]
        refine Rt.bd (rI_n (show f < rlen 82 from hf) (by decide)) ?_
        unfold f_fetch_55
        refine Rt.iq w2 ?_
        refine Rt.bd (v := ()) rfl ?_
        refine Rt.bd (v := Ui S 83 (nI ((f + 1) % 4000))) (by show some (Ui S 83 (Zi S 83 + 1 - (Zi S 83 + 1) / 4000 * 4000)) = _; rw [h83, nI_1, nI_4000 (by omega)]) ?_
        unfold f_fetch_78
        rw [nI_1]
        refine (fet25_ ha hal hl m (i + 1) (Ui S 83 (nI ((f + 1) % 4000))) ((f + 1) % 4000) _ (by omega) (by omega) Zi_s (Nat.mod_lt _ (by decide)) ((Zi_n (by decide)).trans h84)).mo (fun S2 _ q => ⟨(FD9.ui (Or.inl rfl)).tr q.1, q.2⟩)
/-- fetch -/
theorem fet9_ (h : mS K S) : Rt (f_fetch K S) (fun S2 _ => FD9 J83 S S2 ∧ mS K S2) := by
  obtain ⟨f, l, h83, hf, h84, hl⟩ := h.1
  have fin : ∀ S2 : Sg, FD9 J83 S S2 ∧ wq S2 → FD9 J83 S S2 ∧ mS K S2 := fun S2 ⟨a, b⟩ => ⟨a, a.ms h b (by obtain ⟨c, c1, c2⟩ := h.2.1; exact ⟨c, c1, (a.1 86 (by unfold J83; omega)).trans c2⟩) (by unfold J83; omega)⟩
  unfold f_fetch
  rw [h84]
  refine Rt.it (fun w => ?_) (fun w => ?_)
  · have h7 : 7 ≤ l := (nI_leI (a := 7) (b := l) (by decide) (by omega)).mp w
    unfold f_fetch_18
    exact (fet25_ (a := 7) (Nat.le_refl _) h7 hl bigN 0 S f _ (by unfold bigN; omega) (by omega) h83 hf h84).mo (fun S2 _ q => fin S2 q)
  · have h7 : l < 7 := by
      rcases Nat.lt_or_ge l 7 with q | q
      · exact q
      · exact absurd (nI_le (a := 7) q (by omega)) w
    unfold f_fetch_18
    exact (fet25_ (a := l) (by omega) (Nat.le_refl _) hl bigN 0 S f _ (by unfold bigN; omega) (by omega) h83 hf h84).mo (fun S2 _ q => fin S2 q)
/-- the picture taken anew between two calls: of the store the rows of one number alone, their cells told without blanks -/
def rp9 (K : Ky) (S : Sg) (z : Nat) : Sg := (Zi S, Zr S, Zl S, Zq S, Zf S, (List.range 256).filterMap (fun u => Zq S 51 u), fun a => match ZF S a with
  | .inl (k, 1, .inl f) => .inl (k, 1, .inl (fun j => if j = 0 then f 0 else 1))
  | c => c, z, 0)
theorem rp9_m {a : Nat} {z : Nat} (h : a ∈ ZL (rp9 K S z)) : ∃ u : Nat, u < 256 ∧ Zq S 51 u = some a := by
  have h : a ∈ (List.range 256).filterMap (fun u => Zq S 51 u) := h
  obtain ⟨u, hu, e⟩ := List.mem_filterMap.mp h
  exact ⟨u, List.mem_range.mp hu, e⟩
theorem rp9_L {a u z : Nat} (hu : u < 256) (h : Zq S 51 u = some a) : a ∈ ZL (rp9 K S z) := by
  show a ∈ (List.range 256).filterMap (fun u => Zq S 51 u)
  exact List.mem_filterMap.mpr ⟨u, List.mem_range.mpr hu, h⟩
theorem rp9_nd (h : s51 K S) : ((List.range 256).filterMap (fun u => Zq S 51 u)).Nodup := by
  refine List.pairwise_filterMap.mpr ?_
  refine List.Pairwise.imp_of_mem ?_ List.pairwise_lt_range
  intro u v hu hv huv b hb b2 hb2 e
  subst e
  have hu := List.mem_range.mp hu
  have hv := List.mem_range.mp hv
  rcases h u hu with w | ⟨a, f, w1, _, w3, w4⟩
  · rw [hb] at w; cases w
  · rcases h v hv with x | ⟨a2, f2, x1, _, x3, x4⟩
    · rw [hb2] at x; cases x
    · rw [hb] at w1; cases w1
      rw [hb2] at x1; cases x1
      rw [w3] at x3
      have ef : f = f2 := by cases x3; rfl
      subst ef
      have := nI_ij (w4.symm.trans x4) (by omega) (by omega)
      omega
theorem rp9_ms {z : Nat} (h : mS K S) (hz : Zz S ≤ z) : mS K (rp9 K S z) ∧ s52 K (rp9 K S z) := by
  have h5 : s52 K (rp9 K S z) := fun u hu => by
    rcases h.2.2.2.1 u hu with w | ⟨a, f, w1, w2, w3, w4⟩
    · exact Or.inl w
    · refine Or.inr ⟨a, fun j => if j = 0 then f 0 else 1, w1, rp9_L hu w1, ?_, (if_pos rfl).trans w4, ?_⟩
      · show (match ZF S a with
          | .inl (k, 1, .inl f) => (.inl (k, 1, .inl (fun j => if j = 0 then f 0 else 1)) : va_E)
          | c => c) = _
        rw [w3]; rfl
      · show (if (1 : Nat) = 0 then f 0 else 1) ≠ 0
        rw [if_neg (by decide)]; decide
  refine ⟨⟨h.1, h.2.1, h.2.2.1, fun u hu => (h5 u hu).imp id (fun ⟨a, f, w1, w2, w3, w4, _⟩ => ⟨a, f, w1, w2, w3, w4⟩), fun a ha => ?_⟩, h5⟩
  obtain ⟨u, hu, e⟩ := rp9_m ha
  rcases h.2.2.2.1 u hu with w | ⟨b, f, w1, w2, _⟩
  · rw [e] at w; cases w
  · rw [e] at w1; cases w1
    have := h.2.2.2.2 _ w2
    show a < z
    omega
end LW0
