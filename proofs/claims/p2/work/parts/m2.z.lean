/-- new nodes L: out of the free ones, or above -/
def Frs (l : List Nat) (t : Nat) (L l2 : List Nat) (t2 : Nat) : Prop := (∀ n ∈ L, n ∉ l2 ∧ n ≤ t2 ∧ (n ∈ l ∨ t < n)) ∧ t ≤ t2 ∧ (∀ m ∈ l2, m ∈ l) ∧ (∀ m : Nat, m ≤ t2 → m ∉ l2 → m ∈ L ∨ (m ≤ t ∧ m ∉ l)) ∧ l2.length + L.length + t = l.length + t2
section PS25
variable {K : Ky} {S S1 S2 : Sg} {l l2 l3 L : List Nat} {t t2 t3 n : Nat}
theorem Frs.nil : Frs l t [] l t := ⟨fun n h => (by cases h), Nat.le_refl _, fun _ h => h, fun m h1 h2 => Or.inr ⟨h1, h2⟩, by simp⟩
theorem Frs.one (hd : l.Nodup) (hl : ∀ m ∈ l, m ≤ t) (h : (l = n :: l2 ∧ t2 = t) ∨ (l = [] ∧ l2 = [] ∧ n = t + 1 ∧ t2 = t + 1)) : Frs l t [n] l2 t2 := by
  rcases h with ⟨e1, e2⟩ | ⟨e1, e2, e3, e4⟩
  · subst e1; subst e2
    obtain ⟨d1, d2⟩ := List.nodup_cons.mp hd
    refine ⟨fun m hm => ?_, Nat.le_refl _, fun m hm => List.mem_cons_of_mem n hm, fun m h1 h2 => ?_, by simp⟩
    · rw [List.mem_singleton] at hm; subst hm
      exact ⟨d1, hl m (List.mem_cons_self ..), Or.inl (List.mem_cons_self ..)⟩
    · by_cases e : m = n
      · exact Or.inl (by rw [e]; exact List.mem_singleton_self n)
      · exact Or.inr ⟨h1, fun w => (List.mem_cons.mp w).elim e h2⟩
  · subst e1; subst e2; subst e3; subst e4
    refine ⟨fun m hm => ?_, by omega, fun m hm => hm, fun m h1 h2 => ?_, by simp; omega⟩
    · rw [List.mem_singleton] at hm
      exact ⟨by simp, by omega, Or.inr (by omega)⟩
    · by_cases e : m = t + 1
      · exact Or.inl (by rw [e]; exact List.mem_singleton_self _)
      · exact Or.inr ⟨by omega, by simp⟩
theorem Frs.cons {L2 : List Nat} (h : Frs l t [n] l2 t2) (g : Frs l2 t2 L2 l3 t3) : Frs l t (n :: L2) l3 t3 := by
  obtain ⟨h1, h2, h3, h4, h5⟩ := h
  obtain ⟨g1, g2, g3, g4, g5⟩ := g
  obtain ⟨a1, a2, a3⟩ := h1 n (List.mem_singleton_self n)
  refine ⟨fun m hm => ?_, by omega, fun m hm => h3 m (g3 m hm), fun m q1 q2 => ?_, ?_⟩
  · rcases List.mem_cons.mp hm with e | e
    · subst e; exact ⟨fun w => a1 (g3 m w), by omega, a3⟩
    · obtain ⟨b1, b2, b3⟩ := g1 m e
      refine ⟨b1, b2, ?_⟩
      rcases b3 with b3 | b3
      · exact Or.inl (h3 m b3)
      · exact Or.inr (by omega)
  · rcases g4 m q1 q2 with w | ⟨w1, w2⟩
    · exact Or.inl (List.mem_cons_of_mem n w)
    · rcases h4 m w1 w2 with w | w
      · exact Or.inl (by rw [List.mem_singleton] at w; rw [w]; exact List.mem_cons_self ..)
      · exact Or.inr w
  · have : (n :: L2).length = L2.length + 1 := rfl
    have : [n].length = 1 := rfl
    omega
/-- the further nodes of a new place -/
theorem np14 {x : Int32} : ∀ (k d : Nat) (S : Sg) (l : List Nat) (t last : Nat), k < d → k < 100 → FLs S l t → 1 ≤ last → last ≤ t → last ∉ l → k + t ≤ l.length + 429999 → Rt (f_newPlace_14 K d S x (nI last) (nI (k + 1))) (fun S2 r => r = x ∧ ∃ (L l2 : List Nat) (t2 : Nat), L.length = k ∧ lkN (Zr S2 63) (last :: L) ∧ (last :: L).Nodup ∧ FLs S2 l2 t2 ∧ NO (fun m => m = last ∨ m ∈ L) S S2 ∧ Frs l t L l2 t2 ∧ Zl S2 61 last = Zl S 61 last ∧ Zr S2 62 last = Zr S 62 last ∧ ∀ n ∈ L, Zr S2 62 n = 0)
  | k, 0, S, l, t, last, hd, _, _, _, _, _, _ => by omega
  | 0, d + 1, S, l, t, last, hd, h1, hf, a1, a2, a3, hr => by
    have := hf.2.1
    unfold f_newPlace_14
    exact Rt.ip (nI_le (a := 1) (b := 1) (Nat.le_refl _) (by decide)) (Rt.rt ⟨rfl, [], l, t, rfl, ⟨fun a ha => by rw [List.mem_singleton] at ha; subst ha; exact ⟨a1, by omega⟩, fun i a b _ e2 => by rw [List.getElem?_cons_succ] at e2; cases e2⟩, by simp, hf, NO.rf, Frs.nil, rfl, rfl, fun n hn => by cases hn⟩)
  | k + 1, d + 1, S, l, t, last, hd, h1, hf, a1, a2, a3, hr => by
    have ht := hf.2.1
    unfold f_newPlace_14
    refine Rt.iq (Int32.not_le.mpr (nI_lt (a := 1) (b := k + 1 + 1) (by omega) (by omega))) ?_
    refine Rt.bn (nod_ hf (fun e => by rw [e] at hr; simp at hr; omega)) (fun S5 r5 t5 => ?_)
    obtain ⟨n, l2, t2, rfl, n1, n2, n3, f5, e5, _, v5, _, dj⟩ := t5
    have fr1 : Frs l t [n] l2 t2 := Frs.one hf.2.2.2.1 hf.2.2.2.2 dj
    obtain ⟨p1, p2, p3, p4, p5⟩ := fr1
    have hne : last ≠ n := fun e => by
      rcases (p1 n (List.mem_singleton_self n)).2.2 with w | w
      · exact a3 (by rw [e]; exact w)
      · omega
    have hl2 : last ∉ l2 := fun w => a3 (p3 last w)
    refine Rt.bd (wRI_n (show last < rlen 63 from by show last < 430000; omega) (by decide)) ?_
    have e7 : NO (fun m => m = last) S5 (Ur S5 63 (upd (Zr S5 63) last (nI n))) := NO.w3 rfl
    have r7 : Zr (Ur S5 63 (upd (Zr S5 63) last (nI n))) 63 = upd (Zr S5 63) last (nI n) := Zr_us
    have r8 : Zr (Ur S5 63 (upd (Zr S5 63) last (nI n))) 62 = Zr S5 62 := Zr_u9 (by decide)
    have r9 : Zl (Ur S5 63 (upd (Zr S5 63) last (nI n))) = Zl S5 := rfl
    have f7 : FLs (Ur S5 63 (upd (Zr S5 63) last (nI n))) l2 t2 := f5.no e7 (fun m hm e => hl2 (by rw [← e]; exact hm)) rfl rfl
    generalize Ur S5 63 (upd (Zr S5 63) last (nI n)) = S7 at e7 r7 r8 r9 f7
    rw [nI_m1 (k + 1)]
    refine (np14 k d S7 l2 t2 n (by omega) (by omega) f7 n1 n2 n3 (by have : [n].length = 1 := rfl; omega)).mo (fun S2 r ⟨q1, L, l3, t3, q2, q3, q4, q5, q6, q7, q8, q9, q10⟩ => ⟨q1, n :: L, l3, t3, by rw [List.length_cons, q2], ?_, ?_, q5, ?_, Frs.cons ⟨p1, p2, p3, p4, p5⟩ q7, ?_, ?_, ?_⟩)
    · have hnl : ¬ (last = n ∨ last ∈ L) := fun w => by
        rcases w with w | w
        · exact hne w
        · rcases (q7.1 last w).2.2 with z | z
          · exact hl2 z
          · omega
      refine ⟨fun b hb => ?_, fun i b c e1 e2 => ?_⟩
      · rcases List.mem_cons.mp hb with e | e
        · subst e; exact ⟨a1, by omega⟩
        · exact q3.1 b e
      · cases i with
        | zero =>
          cases e1
          rw [List.getElem?_cons_succ] at e2
          cases e2
          rw [(q6.2.2.2.2.2.2.2.2 last hnl).2.2, r7, upd_s]
        | succ i =>
          rw [List.getElem?_cons_succ] at e1 e2
          exact q3.2 i b c e1 e2
    · refine List.nodup_cons.mpr ⟨fun w => ?_, q4⟩
      rcases List.mem_cons.mp w with e | e
      · exact hne e
      · rcases (q7.1 last e).2.2 with z | z
        · exact hl2 z
        · omega
    · exact ((e5.mo (fun m e => Or.inr (by rw [e]; exact List.mem_cons_self ..))).tr (e7.mo (fun m e => Or.inl e))).tr (q6.mo (fun m e => Or.inr (List.mem_cons.mpr e)))
    · have hnl : ¬ (last = n ∨ last ∈ L) := fun w => by
        rcases w with w | w
        · exact hne w
        · rcases (q7.1 last w).2.2 with z | z
          · exact hl2 z
          · omega
      rw [(q6.2.2.2.2.2.2.2.2 last hnl).1, r9, (e5.2.2.2.2.2.2.2.2 last hne).1]
    · have hnl : ¬ (last = n ∨ last ∈ L) := fun w => by
        rcases w with w | w
        · exact hne w
        · rcases (q7.1 last w).2.2 with z | z
          · exact hl2 z
          · omega
      rw [(q6.2.2.2.2.2.2.2.2 last hnl).2.1, r8, (e5.2.2.2.2.2.2.2.2 last hne).2.1]
    · intro m hm
      rcases List.mem_cons.mp hm with e | e
      · subst e; rw [q9, r8]; exact v5
      · exact q10 m e
end PS25
