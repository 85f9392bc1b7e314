section PS28
variable {K : Ky} {S S2 : Sg} {l : List Nat} {t : Nat}
/-- a struct's leaves are laid into a place; their nodes are given back -/
theorem st37 : ∀ (L M : List Nat) (d : Nat) (S : Sg) (l : List Nat) (x y : Int32), L.length = M.length → L.length < d → L.length < 100 → FLs S l t → lkN (Zr S 63) L → lkN (Zr S 63) M → L.Nodup → M.Nodup → (∀ a ∈ L, a ≤ t ∧ a ∉ l ∧ a ∉ M) → (∀ b ∈ M, b ∉ l) → (∀ a : Nat, L[0]? = some a → x = nI a) → (∀ b : Nat, M[0]? = some b → y = nI b) → Rt (f_setPlace_37 K d S x y (nI L.length)) (fun S2 _ => FLs S2 (L.reverse ++ l) t ∧ NO (fun m => m ∈ L ∨ m ∈ M) S S2 ∧ ∀ i a b : Nat, L[i]? = some a → M[i]? = some b → Zl S2 61 b = Zl S 61 a ∧ Zr S2 62 b = 1 ∧ Zr S2 63 b = Zr S 63 b)
  | _, _, 0, S, l, x, y, _, hd, _, _, _, _, _, _, _, _, _, _ => by omega
  | [], M, d + 1, S, l, x, y, he, hd, h1, hf, hk, hm, hn, hn2, ha, hb, hx, hy => by
    unfold f_setPlace_37
    exact Rt.ip (by decide) (Rt.rt ⟨hf, NO.rf, fun i a b e => by cases e⟩)
  | a :: L, [], d + 1, S, l, x, y, he, hd, h1, hf, hk, hm, hn, hn2, ha, hb, hx, hy => by cases he
  | a :: L, b :: M, d + 1, S, l, x, y, he, hd, h1, hf, hk, hm, hn, hn2, ha, hb, hx, hy => by
    have he : L.length = M.length := Nat.succ.inj he
    have h1 : L.length + 1 < 100 := h1
    have hd : L.length + 1 < d + 1 := hd
    obtain ⟨n1, n2⟩ := List.nodup_cons.mp hn
    obtain ⟨m1, m2⟩ := List.nodup_cons.mp hn2
    obtain ⟨a1, a2, a3⟩ := ha a (List.mem_cons_self ..)
    obtain ⟨k1, k2⟩ := hk.1 a (List.mem_cons_self ..)
    obtain ⟨j1, j2⟩ := hm.1 b (List.mem_cons_self ..)
    have hab : a ≠ b := fun w => a3 (by rw [w]; exact List.mem_cons_self ..)
    have hbl := hb b (List.mem_cons_self ..)
    have ex := hx a rfl
    have ey := hy b rfl
    subst ex; subst ey
    unfold f_setPlace_37
    refine Rt.iq (Int32.not_le.mpr (show (0 : Int32) < nI (L.length + 1) from nI_lt (a := 0) (b := L.length + 1) (by omega) (by omega))) (Rt.bd (rJ_n (show a < rlen 61 from k2) (by decide)) (Rt.bd (wJ_n (show b < rlen 61 from j2) (by decide)) ?_))
    have e1 : NO (fun m => m = b) S (Ul S 61 (vp_updL (Zl S 61) b (Zl S 61 a))) := NO.w1 rfl
    have v1 : Zl (Ul S 61 (vp_updL (Zl S 61) b (Zl S 61 a))) 61 b = Zl S 61 a := by rw [Zl_us, upL_s]
    have w1 : Zr (Ul S 61 (vp_updL (Zl S 61) b (Zl S 61 a))) 63 b = Zr S 63 b := rfl
    have f1 : FLs (Ul S 61 (vp_updL (Zl S 61) b (Zl S 61 a))) l t := hf.no e1 (fun m hm w => hbl (by rw [← w]; exact hm)) rfl rfl
    generalize Ul S 61 (vp_updL (Zl S 61) b (Zl S 61 a)) = Sa at e1 v1 w1 f1
    refine Rt.bd (wZ_n (show b < rlen 62 from j2) (by decide) (Or.inr rfl)) ?_
    have e2 : NO (fun m => m = b) Sa (Ur Sa 62 (upd (Zr Sa 62) b 1)) := NO.w2 rfl
    have v2 : Zl (Ur Sa 62 (upd (Zr Sa 62) b 1)) 61 b = Zl S 61 a := v1
    have u2 : Zr (Ur Sa 62 (upd (Zr Sa 62) b 1)) 62 b = 1 := by rw [Zr_us, upd_s]
    have w2 : Zr (Ur Sa 62 (upd (Zr Sa 62) b 1)) 63 b = Zr S 63 b := by rw [Zr_u9 (by decide)]; exact w1
    have f2 : FLs (Ur Sa 62 (upd (Zr Sa 62) b 1)) l t := f1.no e2 (fun m hm w => hbl (by rw [← w]; exact hm)) rfl rfl
    generalize Ur Sa 62 (upd (Zr Sa 62) b 1) = Sb at e2 v2 u2 w2 f2
    have e12 := e1.tr e2
    refine Rt.bd (rI_n (show a < rlen 63 from k2) (by decide)) ?_
    refine Rt.bn (frn_ f2 k1 a1 a2) (fun S4 _ t4 => ?_)
    obtain ⟨f4, e4, z4, y4⟩ := t4
    refine Rt.bd (rI_n (show b < rlen 63 from j2) (by decide)) ?_
    rw [show nI (a :: L).length + (-1) = nI L.length from nI_m1 L.length]
    have e14 : NO (fun m => m = a ∨ m = b) S S4 := (e12.mo (fun m w => Or.inr w)).tr (e4.mo (fun m w => Or.inl w))
    have hLn : ∀ c ∈ L, ¬ (c = a ∨ c = b) := fun c hc w => by
      rcases w with w | w
      · exact n1 (by rw [← w]; exact hc)
      · exact (ha c (List.mem_cons_of_mem a hc)).2.2 (by rw [w]; exact List.mem_cons_self ..)
    have hMn : ∀ c ∈ M, ¬ (c = a ∨ c = b) := fun c hc w => by
      rcases w with w | w
      · exact a3 (by rw [← w]; exact List.mem_cons_of_mem b hc)
      · exact m1 (by rw [← w]; exact hc)
    have nb : Zr S4 63 b = Zr S 63 b := ((e4.2.2.2.2.2.2.2.2 b (fun w => hab w.symm)).2.2).trans w2
    have na : Zr Sb 63 a = Zr S 63 a := (e12.2.2.2.2.2.2.2.2 a hab).2.2
    refine (st37 L M d S4 (a :: l) (Zr Sb 63 a) (Zr S4 63 b) he (by omega) (by omega) f4 (hk.tl.cg (fun c hc => (e14.2.2.2.2.2.2.2.2 c (hLn c hc)).2.2)) (hm.tl.cg (fun c hc => (e14.2.2.2.2.2.2.2.2 c (hMn c hc)).2.2)) n2 m2 (fun c hc => ⟨(ha c (List.mem_cons_of_mem a hc)).1, fun w => ?_, fun w => (ha c (List.mem_cons_of_mem a hc)).2.2 (List.mem_cons_of_mem b w)⟩) (fun c hc w => ?_) (fun c hc => by rw [na]; exact hk.2 0 a c rfl (by rw [List.getElem?_cons_succ]; exact hc)) (fun c hc => by rw [nb]; exact hm.2 0 b c rfl (by rw [List.getElem?_cons_succ]; exact hc))).mo (fun S5 _ ⟨q1, q2, q3⟩ => ⟨?_, (e14.mo (fun m w => w.imp (fun w => by rw [w]; exact List.mem_cons_self ..) (fun w => by rw [w]; exact List.mem_cons_self ..))).tr (q2.mo (fun m w => w.imp (List.mem_cons_of_mem a) (List.mem_cons_of_mem b))), fun i c c2 g1 g2 => ?_⟩)
    · rcases List.mem_cons.mp w with w | w
      · exact n1 (by rw [← w]; exact hc)
      · exact (ha c (List.mem_cons_of_mem a hc)).2.1 w
    · rcases List.mem_cons.mp w with w | w
      · exact a3 (by rw [← w]; exact List.mem_cons_of_mem b hc)
      · exact hb c (List.mem_cons_of_mem b hc) w
    · rw [List.reverse_cons, List.append_assoc]; exact q1
    · cases i with
      | zero =>
        cases g1; cases g2
        have hbn : ¬ (b ∈ L ∨ b ∈ M) := fun w => by
          rcases w with w | w
          · exact hLn b w (Or.inr rfl)
          · exact m1 w
        obtain ⟨r1, r2, r3⟩ := q2.2.2.2.2.2.2.2.2 b hbn
        exact ⟨r1.trans (by rw [z4]; exact v2), r2.trans (by rw [y4]; exact u2), r3.trans nb⟩
      | succ i =>
        rw [List.getElem?_cons_succ] at g1 g2
        obtain ⟨r1, r2, r3⟩ := q3 i c c2 g1 g2
        have hc := List.mem_of_getElem? g1
        have hc2 := List.mem_of_getElem? g2
        exact ⟨r1.trans (e14.2.2.2.2.2.2.2.2 c (hLn c hc)).1, r2, r3.trans (e14.2.2.2.2.2.2.2.2 c2 (hMn c2 hc2)).2.2⟩
end PS28
