section PS27
variable {R : yR} {S0 Sl S S2 : Sg} {g : Nat → Int32} {l L : List Nat} {t : Nat} {o : Option Nat}
/-- newPlace -/
theorem npl_ (hL : LFS R S0 g) (hx : LX S0 Sl) (e : RNx Sl S) (ho : ∀ x : Nat, o = some x → rTy S0 x) (h1 : 1 ≤ zN R S0 (abU S0 o)) (h16 : zN R S0 (abU S0 o) ≤ 16) (hf : FLs S l t) (hr : zN R S0 (abU S0 o) + t ≤ l.length + 429999) : Rt (f_newPlace R.K S o) (fun S2 r => ∃ (L l2 : List Nat) (t2 a : Nat), L.length = zN R S0 (abU S0 o) ∧ L[0]? = some a ∧ r = nI a ∧ lkN (Zr S2 63) L ∧ L.Nodup ∧ FLs S2 l2 t2 ∧ NO (fun m => m ∈ L) S S2 ∧ Frs l t L l2 t2 ∧ ∀ n ∈ L, Zr S2 62 n = 0) := by
  unfold f_newPlace
  refine Rt.bn (nod_ hf (fun w => by rw [w] at hr; simp at hr; omega)) (fun S1 r1 t1 => ?_)
  obtain ⟨n, l1, t2, rfl, n1, n2, n3, f5, e5, _, v5, _, dj⟩ := t1
  have fr1 : Frs l t [n] l1 t2 := Frs.one hf.2.2.2.1 hf.2.2.2.2 dj
  refine Rt.be (lvo_ hL hx (e.tr e5.rn) ho) ?_
  have hk : nI (zN R S0 (abU S0 o)) = nI (zN R S0 (abU S0 o) - 1 + 1) := by rw [show zN R S0 (abU S0 o) - 1 + 1 = zN R S0 (abU S0 o) by omega]
  rw [hk]
  have hc := fr1.2.2.2.2
  have : [n].length = 1 := rfl
  refine (np14 (zN R S0 (abU S0 o) - 1) bigN S1 l1 t2 n (by unfold bigN; omega) (by omega) f5 n1 n2 n3 (by omega)).mo (fun S2 r ⟨q1, L, l3, t3, q2, q3, q4, q5, q6, q7, q8, q9, q10⟩ => ⟨n :: L, l3, t3, n, by rw [List.length_cons, q2]; omega, rfl, q1, q3, q4, q5, (e5.mo (fun m w => by rw [w]; exact List.mem_cons_self ..)).tr (q6.mo (fun m w => List.mem_cons.mpr w)), fr1.cons q7, fun m hm => ?_⟩)
  rcases List.mem_cons.mp hm with w | w
  · subst w; rw [q9]; exact v5
  · exact q10 m w
/-- freePlace -/
theorem frp_ {a : Nat} (hL : LFS R S0 g) (hx : LX S0 Sl) (e : RNx Sl S) (ho : ∀ x : Nat, o = some x → rTy S0 x) (h16 : zN R S0 (abU S0 o) ≤ 16) (hf : FLs S l t) (hl : L.length = zN R S0 (abU S0 o)) (hk : lkN (Zr S 63) L) (hd : L.Nodup) (hn : ∀ a ∈ L, a ≤ t ∧ a ∉ l) (ha : L[0]? = some a) : Rt (f_freePlace R.K S o (nI a)) (fun S2 _ => FLs S2 (L.reverse ++ l) t ∧ NO (fun m => m ∈ L) S S2 ∧ Zl S2 = Zl S ∧ Zr S2 62 = Zr S 62) := by
  unfold f_freePlace
  refine Rt.be (lvo_ hL hx e ho) ?_
  rw [← hl]
  exact fp9 L bigN S l (nI a) (by unfold bigN; omega) (by omega) hf hk hd hn (fun b hb => by rw [ha] at hb; cases hb; rfl)
theorem po6 {ta cap i a b : Nat} {G : Nat → Option Nat} (hL : LFS R S0 g) (hx : LX S0 Sl) (e : RNx Sl S) (ht : ta ∈ ZL Sl ∧ ZF Sl ta = .inl (R.K.1 4, cap, .inr (.inr (.inr (.inr G))))) (hc : i ≤ cap ∧ cap < 100) (hG : ∀ j x : Nat, j < i → G j = some x → rTy S0 x) (hk : lkN (Zr S 63) L) (ha : L[0]? = some a) (hb : L[psN (fun j => zN R S0 (abU S0 (G j))) i]? = some b) (h100 : psN (fun j => zN R S0 (abU S0 (G j))) i < 100) : ∀ (d j : Nat), i < j + d → j ≤ i → f_partOf_6 R.K d S (some ta) (nI a) (nI i) (nI (psN (fun j => zN R S0 (abU S0 (G j))) j)) (nI j) = some (S, nI b)
  | 0, j, hd, hj => by omega
  | d + 1, j, hd, hj => by
    unfold f_partOf_6
    by_cases w : j = i
    · subst w
      rw [if_pos (nI_le (Nat.le_refl _) (by omega)), alg_ (i := 0) hk h100 ha (by rw [Nat.zero_add]; exact hb)]
      rfl
    · rw [if_neg (Int32.not_le.mpr (nI_lt (by omega) (by omega))), aQ_n (by rw [e.1]; exact ht.1) (by rw [e.2.1]; exact ht.2) (show j < cap by omega) (by omega)]
      simp only [Option.bind_some]
      rw [lvo_ hL hx e (fun x q => hG j x (by omega) q)]
      show f_partOf_6 R.K d S (some ta) (nI a) (nI i) (nI (psN (fun j => zN R S0 (abU S0 (G j))) j) + nI (zN R S0 (abU S0 (G j)))) (nI j + 1) = _
      rw [nI_add, nI_1]
      exact po6 hL hx e ht hc hG hk ha hb h100 d (j + 1) (by omega) (by omega)
/-- partOf -/
theorem pof_ {ta cap i a b : Nat} {G : Nat → Option Nat} (hL : LFS R S0 g) (hx : LX S0 Sl) (e : RNx Sl S) (ht : ta ∈ ZL Sl ∧ ZF Sl ta = .inl (R.K.1 4, cap, .inr (.inr (.inr (.inr G))))) (hc : i ≤ cap ∧ cap < 100) (hG : ∀ j x : Nat, j < i → G j = some x → rTy S0 x) (hk : lkN (Zr S 63) L) (ha : L[0]? = some a) (hb : L[psN (fun j => zN R S0 (abU S0 (G j))) i]? = some b) (h100 : psN (fun j => zN R S0 (abU S0 (G j))) i < 100) : f_partOf R.K S (some ta) (nI a) (nI i) = some (S, nI b) := by
  unfold f_partOf
  exact po6 hL hx e ht hc hG hk ha hb h100 bigN 0 (by unfold bigN; omega) (Nat.zero_le _)
/-- leaf -/
theorem lea_ {K : Ky} {v : Int64} (hf : FLs S l t) (hr : l = [] → t + 1 < 430000) : Rt (f_leaf K S v) (fun S2 r => ∃ (n : Nat) (l2 : List Nat) (t2 : Nat), r = nI n ∧ 1 ≤ n ∧ n < 430000 ∧ FLs S2 l2 t2 ∧ NO (fun m => m = n) S S2 ∧ Zl S2 61 n = v ∧ Zr S2 62 n = 1 ∧ Frs l t [n] l2 t2) := by
  unfold f_leaf
  refine Rt.bn (nod_ hf hr) (fun S1 r1 t1 => ?_)
  obtain ⟨n, l1, t2, rfl, n1, n2, n3, f5, e5, _, v5, _, dj⟩ := t1
  have fr1 : Frs l t [n] l1 t2 := Frs.one hf.2.2.2.1 hf.2.2.2.2 dj
  have hn : n < 430000 := by have := f5.2.1; omega
  refine Rt.bd (wJ_n (show n < rlen 61 from hn) (by decide)) ?_
  have e1 : NO (fun m => m = n) S1 (Ul S1 61 (vp_updL (Zl S1 61) n v)) := NO.w1 rfl
  have f6 : FLs (Ul S1 61 (vp_updL (Zl S1 61) n v)) l1 t2 := f5.no e1 (fun m hm w => n3 (by rw [← w]; exact hm)) rfl rfl
  have v1 : Zl (Ul S1 61 (vp_updL (Zl S1 61) n v)) 61 n = v := by rw [Zl_us, upL_s]
  generalize Ul S1 61 (vp_updL (Zl S1 61) n v) = Sa at e1 f6 v1
  refine Rt.bd (wZ_n (show n < rlen 62 from hn) (by decide) (Or.inr rfl)) ?_
  have e2 : NO (fun m => m = n) Sa (Ur Sa 62 (upd (Zr Sa 62) n 1)) := NO.w2 rfl
  exact Rt.rt ⟨n, l1, t2, rfl, n1, hn, f6.no e2 (fun m hm w => n3 (by rw [← w]; exact hm)) rfl rfl, (e5.tr e1).tr e2, v1, by rw [Zr_us, upd_s], fr1⟩
end PS27
