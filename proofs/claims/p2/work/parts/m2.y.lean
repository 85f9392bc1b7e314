/-- nodes that are linked one to the next -/
def lkN (f : Nat → Int32) (L : List Nat) : Prop := (∀ a ∈ L, 1 ≤ a ∧ a < 430000) ∧ ∀ i a b : Nat, L[i]? = some a → L[i + 1]? = some b → f a = nI b
section PS24
variable {K : Ky} {S S1 S2 : Sg} {l L : List Nat} {t n : Nat}
theorem lkN.tl {f : Nat → Int32} {a : Nat} (h : lkN f (a :: L)) : lkN f L := ⟨fun b hb => h.1 b (List.mem_cons_of_mem a hb), fun i x y h1 h2 => h.2 (i + 1) x y (by rw [List.getElem?_cons_succ]; exact h1) (by rw [List.getElem?_cons_succ]; exact h2)⟩
theorem lkN.cg {f g : Nat → Int32} (h : lkN f L) (e : ∀ a ∈ L, g a = f a) : lkN g L := ⟨h.1, fun i a b h1 h2 => (e a (List.mem_of_getElem? h1)).trans (h.2 i a b h1 h2)⟩
theorem nI_m1 (n : Nat) : nI (n + 1) + (-1) = nI n := by rw [← Int32.sub_eq_add_neg]; exact nI_pred n
theorem al5 (h : lkN (Zr S 63) L) {i m a b : Nat} (hm : m < 100) (hb : L[i + m]? = some b) : ∀ (d j c : Nat), m < j + d → j ≤ m → L[i + j]? = some c → f_along_5 K d S (nI m) (nI c) (nI j) = some (S, nI b)
  | 0, j, c, hd, hj, _ => by omega
  | d + 1, j, c, hd, hj, hc => by
    unfold f_along_5
    by_cases e : j = m
    · subst e
      rw [if_pos (nI_le (Nat.le_refl _) (by omega))]
      rw [hb] at hc; cases hc; rfl
    · have hlt : i + j + 1 < L.length := by
        have := (List.getElem?_eq_some_iff.mp hb).1
        omega
      have hg := List.getElem?_eq_getElem hlt
      have hc2 := h.1 c (List.mem_of_getElem? hc)
      rw [if_neg (Int32.not_le.mpr (nI_lt (by omega) (by omega))), rI_n (show c < rlen 63 from hc2.2) (by decide), h.2 (i + j) c _ hc hg, nI_1]
      exact al5 (a := a) h hm hb d (j + 1) _ (by omega) (by omega) hg
/-- along -/
theorem alg_ (h : lkN (Zr S 63) L) {i m a b : Nat} (hm : m < 100) (ha : L[i]? = some a) (hb : L[i + m]? = some b) : f_along K S (nI a) (nI m) = some (S, nI b) := by
  unfold f_along
  exact al5 (a := a) h hm hb bigN 0 a (by unfold bigN; omega) (Nat.zero_le _) ha
/-- the nodes of a place are given back -/
theorem fp9 : ∀ (L : List Nat) (d : Nat) (S : Sg) (l : List Nat) (x : Int32), L.length < d → L.length < 100 → FLs S l t → lkN (Zr S 63) L → L.Nodup → (∀ a ∈ L, a ≤ t ∧ a ∉ l) → (∀ a : Nat, L[0]? = some a → x = nI a) → Rt (f_freePlace_9 K d S x (nI L.length)) (fun S2 _ => FLs S2 (L.reverse ++ l) t ∧ NO (fun m => m ∈ L) S S2 ∧ Zl S2 = Zl S ∧ Zr S2 62 = Zr S 62)
  | _, 0, S, l, x, hd, _, _, _, _, _, _ => by omega
  | [], d + 1, S, l, x, hd, h1, hf, hk, hn, ha, hx => by
    unfold f_freePlace_9
    exact Rt.ip (by decide) (Rt.rt ⟨hf, NO.rf, rfl, rfl⟩)
  | a :: L, d + 1, S, l, x, hd, h1, hf, hk, hn, ha, hx => by
    have h1 : L.length + 1 < 100 := h1
    have hd : L.length + 1 < d + 1 := hd
    obtain ⟨n1, n2⟩ := List.nodup_cons.mp hn
    obtain ⟨a1, a2⟩ := ha a (List.mem_cons_self ..)
    obtain ⟨k1, k2⟩ := hk.1 a (List.mem_cons_self ..)
    have ex := hx a rfl
    subst ex
    unfold f_freePlace_9
    refine Rt.iq (Int32.not_le.mpr (show (0 : Int32) < nI (L.length + 1) from nI_lt (a := 0) (b := L.length + 1) (by omega) (by omega))) (Rt.bd (rI_n (show a < rlen 63 from k2) (by decide)) ?_)
    refine Rt.bn (frn_ hf k1 a1 a2) (fun S4 _ t4 => ?_)
    obtain ⟨f4, e4, z4, y4⟩ := t4
    rw [show nI (a :: L).length + (-1) = nI L.length from nI_m1 L.length]
    have hk4 : lkN (Zr S4 63) L := hk.tl.cg (fun b hb => (e4.2.2.2.2.2.2.2.2 b (fun e => n1 (by rw [← e]; exact hb))).2.2)
    refine (fp9 L d S4 (a :: l) (Zr S 63 a) (by omega) (by omega) f4 hk4 n2 (fun b hb => ⟨(ha b (List.mem_cons_of_mem a hb)).1, fun w => ?_⟩) (fun b hb => hk.2 0 a b rfl (by rw [List.getElem?_cons_succ]; exact hb))).mo (fun S5 _ ⟨q1, q2, q3, q4⟩ => ⟨?_, (e4.mo (fun m e => by rw [e]; exact List.mem_cons_self ..)).tr (q2.mo (fun m e => List.mem_cons_of_mem a e)), q3.trans z4, q4.trans y4⟩)
    · rcases List.mem_cons.mp w with e | e
      · exact n1 (by rw [← e]; exact hb)
      · exact (ha b (List.mem_cons_of_mem a hb)).2 e
    · rw [List.reverse_cons, List.append_assoc]; exact q1
end PS24
