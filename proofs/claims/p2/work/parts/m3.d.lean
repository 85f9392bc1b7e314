section PS29
variable {K : Ky} {S S2 : Sg} {l : List Nat} {t : Nat}
/-- a struct's leaves are taken out of a place (M) into new nodes (L) -/
theorem tk41 {z : Int32} : ∀ (L M : List Nat) (d : Nat) (S : Sg) (x y : Int32), L.length = M.length → L.length < d → L.length < 100 → FLs S l t → lkN (Zr S 63) L → lkN (Zr S 63) M → L.Nodup → M.Nodup → (∀ a ∈ L, a ∉ l ∧ a ∉ M) → (∀ b ∈ M, b ∉ l) → (∀ a : Nat, L[0]? = some a → x = nI a) → (∀ b : Nat, M[0]? = some b → y = nI b) → Rt (f_takePlace_41 K d S z x y (nI L.length)) (fun S2 r => r = Int32.toInt64 z ∧ FLs S2 l t ∧ NO (fun m => m ∈ L ∨ m ∈ M) S S2 ∧ Zr S2 63 = Zr S 63 ∧ ∀ i a b : Nat, L[i]? = some a → M[i]? = some b → Zl S2 61 a = Zl S 61 b ∧ Zr S2 62 a = 1 ∧ Zr S2 62 b = 0 ∧ Zl S2 61 b = Zl S 61 b)
  | _, _, 0, S, x, y, _, hd, _, _, _, _, _, _, _, _, _, _ => by omega
  | [], M, d + 1, S, x, y, he, hd, h1, hf, hk, hm, hn, hn2, ha, hb, hx, hy => by
    unfold f_takePlace_41
    exact Rt.ip (by decide) (Rt.rt ⟨rfl, hf, NO.rf, rfl, fun i a b e => by cases e⟩)
  | a :: L, [], d + 1, S, x, y, he, hd, h1, hf, hk, hm, hn, hn2, ha, hb, hx, hy => by cases he
  | a :: L, b :: M, d + 1, S, x, y, he, hd, h1, hf, hk, hm, hn, hn2, ha, hb, hx, hy => by
    have he : L.length = M.length := Nat.succ.inj he
    have h1 : L.length + 1 < 100 := h1
    have hd : L.length + 1 < d + 1 := hd
    obtain ⟨n1, n2⟩ := List.nodup_cons.mp hn
    obtain ⟨m1, m2⟩ := List.nodup_cons.mp hn2
    obtain ⟨a2, a3⟩ := ha a (List.mem_cons_self ..)
    obtain ⟨k1, k2⟩ := hk.1 a (List.mem_cons_self ..)
    obtain ⟨j1, j2⟩ := hm.1 b (List.mem_cons_self ..)
    have hab : a ≠ b := fun w => a3 (by rw [w]; exact List.mem_cons_self ..)
    have hbl := hb b (List.mem_cons_self ..)
    have ex := hx a rfl
    have ey := hy b rfl
    subst ex; subst ey
    unfold f_takePlace_41
    refine Rt.iq (Int32.not_le.mpr (show (0 : Int32) < nI (L.length + 1) from nI_lt (a := 0) (b := L.length + 1) (by omega) (by omega))) (Rt.bd (rJ_n (show b < rlen 61 from j2) (by decide)) (Rt.bd (wJ_n (show a < rlen 61 from k2) (by decide)) ?_))
    have e1 : NO (fun m => m = a) S (Ul S 61 (vp_updL (Zl S 61) a (Zl S 61 b))) := NO.w1 rfl
    have v1 : Zl (Ul S 61 (vp_updL (Zl S 61) a (Zl S 61 b))) 61 a = Zl S 61 b := by rw [Zl_us, upL_s]
    have w1 : Zr (Ul S 61 (vp_updL (Zl S 61) a (Zl S 61 b))) 63 = Zr S 63 := rfl
    have f1 : FLs (Ul S 61 (vp_updL (Zl S 61) a (Zl S 61 b))) l t := hf.no e1 (fun m hm w => a2 (by rw [← w]; exact hm)) rfl rfl
    generalize Ul S 61 (vp_updL (Zl S 61) a (Zl S 61 b)) = Sa at e1 v1 w1 f1
    refine Rt.bd (wZ_n (show a < rlen 62 from k2) (by decide) (Or.inr rfl)) ?_
    have e2 : NO (fun m => m = a) Sa (Ur Sa 62 (upd (Zr Sa 62) a 1)) := NO.w2 rfl
    have v2 : Zl (Ur Sa 62 (upd (Zr Sa 62) a 1)) = Zl Sa := rfl
    have u2 : Zr (Ur Sa 62 (upd (Zr Sa 62) a 1)) 62 a = 1 := by rw [Zr_us, upd_s]
    have w2 : Zr (Ur Sa 62 (upd (Zr Sa 62) a 1)) 63 = Zr S 63 := by rw [Zr_u9 (by decide)]; exact w1
    have f2 : FLs (Ur Sa 62 (upd (Zr Sa 62) a 1)) l t := f1.no e2 (fun m hm w => a2 (by rw [← w]; exact hm)) rfl rfl
    generalize Ur Sa 62 (upd (Zr Sa 62) a 1) = Sb at e2 v2 u2 w2 f2
    refine Rt.bd (wZ_n (show b < rlen 62 from j2) (by decide) (Or.inl rfl)) ?_
    have e3 : NO (fun m => m = b) Sb (Ur Sb 62 (upd (Zr Sb 62) b 0)) := NO.w2 rfl
    have v3 : Zl (Ur Sb 62 (upd (Zr Sb 62) b 0)) = Zl Sb := rfl
    have u3 : Zr (Ur Sb 62 (upd (Zr Sb 62) b 0)) 62 b = 0 := by rw [Zr_us, upd_s]
    have w3 : Zr (Ur Sb 62 (upd (Zr Sb 62) b 0)) 63 = Zr S 63 := by rw [Zr_u9 (by decide)]; exact w2
    have f3 : FLs (Ur Sb 62 (upd (Zr Sb 62) b 0)) l t := f2.no e3 (fun m hm w => hbl (by rw [← w]; exact hm)) rfl rfl
    generalize Ur Sb 62 (upd (Zr Sb 62) b 0) = S4 at e3 v3 u3 w3 f3
    refine Rt.bd (rI_n (show a < rlen 63 from k2) (by decide)) (Rt.bd (rI_n (show b < rlen 63 from j2) (by decide)) ?_)
    rw [show nI (a :: L).length + (-1) = nI L.length from nI_m1 L.length]
    have e12 := e1.tr e2
    have e14 : NO (fun m => m = a ∨ m = b) S S4 := (e12.mo (fun m w => Or.inl w)).tr (e3.mo (fun m w => Or.inr w))
    have hLn : ∀ c ∈ L, ¬ (c = a ∨ c = b) := fun c hc w => by
      rcases w with w | w
      · exact n1 (by rw [← w]; exact hc)
      · exact (ha c (List.mem_cons_of_mem a hc)).2 (by rw [w]; exact List.mem_cons_self ..)
    have hMn : ∀ c ∈ M, ¬ (c = a ∨ c = b) := fun c hc w => by
      rcases w with w | w
      · exact a3 (by rw [← w]; exact List.mem_cons_of_mem b hc)
      · exact m1 (by rw [← w]; exact hc)
    refine (tk41 L M d S4 (Zr S4 63 a) (Zr S4 63 b) he (by omega) (by omega) f3 (by rw [w3]; exact hk.tl) (by rw [w3]; exact hm.tl) n2 m2 (fun c hc => ⟨(ha c (List.mem_cons_of_mem a hc)).1, fun w => (ha c (List.mem_cons_of_mem a hc)).2 (List.mem_cons_of_mem b w)⟩) (fun c hc => hb c (List.mem_cons_of_mem b hc)) (fun c hc => by rw [w3]; exact hk.2 0 a c rfl (by rw [List.getElem?_cons_succ]; exact hc)) (fun c hc => by rw [w3]; exact hm.2 0 b c rfl (by rw [List.getElem?_cons_succ]; exact hc))).mo (fun S5 r ⟨q0, q1, q2, q3, q4⟩ => ⟨q0, q1, (e14.mo (fun m w => w.imp (fun w => by rw [w]; exact List.mem_cons_self ..) (fun w => by rw [w]; exact List.mem_cons_self ..))).tr (q2.mo (fun m w => w.imp (List.mem_cons_of_mem a) (List.mem_cons_of_mem b))), q3.trans w3, fun i c c2 g1 g2 => ?_⟩)
    cases i with
    | zero =>
      cases g1; cases g2
      have han : ¬ (a ∈ L ∨ a ∈ M) := fun w => w.elim n1 (fun w => a3 (List.mem_cons_of_mem b w))
      have hbn : ¬ (b ∈ L ∨ b ∈ M) := fun w => w.elim (fun w => hLn b w (Or.inr rfl)) m1
      obtain ⟨r1, r2, _⟩ := q2.2.2.2.2.2.2.2.2 a han
      obtain ⟨s1, s2, _⟩ := q2.2.2.2.2.2.2.2.2 b hbn
      refine ⟨r1.trans (by rw [v3, v2]; exact v1), r2.trans (((e3.2.2.2.2.2.2.2.2 a hab).2.1).trans u2), s2.trans u3, s1.trans (by rw [v3, v2]; exact (e1.2.2.2.2.2.2.2.2 b (fun w => hab w.symm)).1)⟩
    | succ i =>
      rw [List.getElem?_cons_succ] at g1 g2
      obtain ⟨r1, r2, r3, r4⟩ := q4 i c c2 g1 g2
      have hz := (e14.2.2.2.2.2.2.2.2 c2 (hMn c2 (List.mem_of_getElem? g2))).1
      exact ⟨r1.trans hz, r2, r3, r4.trans hz⟩
end PS29
