section LW1
/-- of a world's two halves the first is changed by a call -/
theorem va_joinL {D : va_G} {cl : List vw_C} {A0 : Nat → Prop} {W V W1 : va_W} {H H1 : Heap} (hP : va_P D cl (W ++ V) H) (hD : va_D A0 (W ++ V)) (hk : ∀ q : Nat, q < H.size → ¬ va_A W H.size q → H1[q]? = H[q]?) (hF : ∀ q, va_A W H.size q → A0 q) (hP1 : va_P D cl W1 H1) (hD1 : va_D (va_A W H.size) W1) : va_P D cl (W1 ++ V) H1 ∧ va_D A0 (W1 ++ V) := by
  have hV : ∀ (k : Nat) (q : Nat × va_E), V[k]? = some q → q.1 < H.size ∧ ¬ va_A W H.size q.1 := fun k q hq => by
    have hlt := (hP.tl k q hq).lt
    refine ⟨hlt, fun w => ?_⟩
    rcases w with ⟨i, x, hi⟩ | w
    · exact hD.ft hi hq rfl
    · omega
  have hW1 : ∀ (k : Nat) (q : Nat × va_E), W1[k]? = some q → va_A W H.size q.1 := fun k q hq => hD1.2 k q hq
  refine ⟨fun k q hq => ?_, fun i j p q hp hq e => ?_, fun k q hq => ?_⟩
  · rcases Nat.lt_or_ge k W1.length with z | z
    · rw [List.getElem?_append_left z] at hq
      exact hP1 k q hq
    · rw [List.getElem?_append_right z] at hq
      obtain ⟨a, b⟩ := hV _ q hq
      exact (hP.tl _ q hq).kept (hk q.1 a b)
  · rcases Nat.lt_or_ge i W1.length with zi | zi
    · rw [List.getElem?_append_left zi] at hp
      rcases Nat.lt_or_ge j W1.length with zj | zj
      · rw [List.getElem?_append_left zj] at hq
        exact hD1.1 i j p q hp hq e
      · rw [List.getElem?_append_right zj] at hq
        exact absurd (e ▸ hW1 i p hp) (hV _ q hq).2
    · rw [List.getElem?_append_right zi] at hp
      rcases Nat.lt_or_ge j W1.length with zj | zj
      · rw [List.getElem?_append_left zj] at hq
        exact absurd (e.symm ▸ hW1 j q hq) (hV _ p hp).2
      · rw [List.getElem?_append_right zj] at hq
        have := hD.tl.1 _ _ p q hp hq e
        omega
  · rcases Nat.lt_or_ge k W1.length with z | z
    · rw [List.getElem?_append_left z] at hq
      exact hF _ (hW1 k q hq)
    · rw [List.getElem?_append_right z] at hq
      exact hD.tl.2 _ q hq
theorem va_swP {D : va_G} {cl : List vw_C} {W V : va_W} {H : Heap} (h : va_P D cl (W ++ V) H) : va_P D cl (V ++ W) H := h.turn (fun _ hq => (List.perm_append_comm).mem_iff.mp hq)
theorem va_swD {A : Nat → Prop} {W V : va_W} (h : va_D A (W ++ V)) : va_D A (V ++ W) := h.perm List.perm_append_comm
theorem va_fstP {D : va_G} {cl : List vw_C} {W V : va_W} {H : Heap} (h : va_P D cl (W ++ V) H) : va_P D cl W H := h.turn (fun _ hq => List.mem_append_left _ hq)
/-- rows that agree as far as they go are the same cell -/
theorem at_cg {D : va_G} {cl : List vw_C} {a n : Nat} {k : ClassId} {f g : vRw} {H : Heap} (h : va_at D cl (a, .inl (k, n, f)) H) (e : vp_cell k (n, f) = vp_cell k (n, g)) : va_at D cl (a, .inl (k, n, g)) H := by
  have h : H[a]? = some (vp_cell k (n, f)) := h
  show H[a]? = some (vp_cell k (n, g))
  rw [← e]; exact h
theorem arrV_cg {k : ClassId} {n : Nat} {f g : Nat → Value} (h : ∀ j : Nat, j < n → f j = g j) : arrV k n f = arrV k n g := by
  unfold arrV
  have : (Array.ofFn (n := n) fun j => f j.val) = Array.ofFn (n := n) fun j => g j.val := congrArg _ (funext (fun j => h j.val j.isLt))
  rw [this]
theorem cell_i {k : ClassId} {n : Nat} {f g : Nat → Int32} (h : ∀ j : Nat, j < n → f j = g j) : vp_cell k (n, .inl f) = vp_cell k (n, .inl g) := by
  show arrV k n (fun j => .int (f j)) = arrV k n (fun j => .int (g j))
  exact arrV_cg (fun j hj => by rw [h j hj])
theorem cell_q {k : ClassId} {n : Nat} {f g : Nat → Option Nat} (h : ∀ j : Nat, j < n → f j = g j) : vp_cell k (n, .inr (.inr (.inr (.inr f)))) = vp_cell k (n, .inr (.inr (.inr (.inr g)))) := by
  rw [vp_cell_q, vp_cell_q]
  exact arrV_cg (fun j hj => by rw [h j hj])
/-- the reference's object and rows, with such rows of one number as there are -/
def rfW (kc : Nat → ClassId) (m9 : Nat) (mr : Nat → Nat) (S : Sg) : va_W := sT (LL m9 mr S) (FF kc m9 mr S)
/-- .. between two calls -/
def rfK (kc : Nat → ClassId) (m9 : Nat) (mr : Nat → Nat) (ln : Nat) (S : Sg) (H : Heap) : Prop := (∀ r ∈ rwL, ∀ r2 ∈ rwL, mr r = mr r2 → r = r2) ∧ mS (kc, 0, 0) S ∧ s52 (kc, 0, 0) S ∧ Zi S 1 = nI ln ∧ H.size = Zz S ∧ Zn S = 0
theorem mS_k {K K2 : Ky} {S : Sg} (h : mS K S) (e : K2.1 = K.1) : mS K2 S := ⟨h.1, h.2.1, h.2.2.1, fun u hu => by rw [e]; exact h.2.2.2.1 u hu, h.2.2.2.2⟩
theorem s52_k {K K2 : Ky} {S : Sg} (h : s52 K S) (e : K2.1 = K.1) : s52 K2 S := fun u hu => by rw [e]; exact h u hu
/-- the picture anew -/
theorem rfW_rp {D : va_G} {A : Nat → Prop} {K : Ky} {m9 : Nat} {mr : Nat → Nat} {S : Sg} {H : Heap} {V : va_W} {z : Nat} (hi : ∀ r ∈ rwL, ∀ r2 ∈ rwL, mr r = mr r2 → r = r2) (hS : mS K S) (hP : va_P D vwCl (V ++ rfW K.1 m9 mr S) H) (hD : va_D A (V ++ rfW K.1 m9 mr S)) : va_P D vwCl (V ++ rfW K.1 m9 mr (rp9 K S z)) H ∧ va_D A (V ++ rfW K.1 m9 mr (rp9 K S z)) := by
  have hnd : (LL m9 mr S).Nodup := sT_nd (A := A) hD.tl
  have hsub : ∀ a ∈ ZL (rp9 K S z), a ∈ ZL S := fun a ha => by
    obtain ⟨u, hu, e⟩ := rp9_m ha
    rcases hS.2.2.2.1 u hu with w | ⟨b, f, w1, w2, _⟩
    · rw [e] at w; cases w
    · rw [e] at w1; cases w1; exact w2
  have hLs : ∀ a ∈ LL m9 mr (rp9 K S z), a ∈ LL m9 mr S := fun a ha => by
    rcases List.mem_cons.mp ha with h | h
    · rw [h]; exact LLm
    · rcases List.mem_append.mp h with h | h
      · exact List.mem_cons_of_mem _ (List.mem_append_left _ h)
      · exact LLl (hsub a h)
  have hnl : (LL m9 mr (rp9 K S z)).Nodup := by
    have h1 := List.nodup_cons.mp hnd
    have h2 := List.nodup_append.mp h1.2
    refine List.nodup_cons.mpr ⟨fun w => h1.1 ?_, List.nodup_append.mpr ⟨h2.1, rp9_nd hS.2.2.2.1, fun x hx y hy => h2.2.2 x hx y (hsub y hy)⟩⟩
    rcases List.mem_append.mp w with w | w
    · exact List.mem_append_left _ w
    · exact List.mem_append_right _ (hsub _ w)
  have hat : ∀ a ∈ LL m9 mr (rp9 K S z), va_at D vwCl (a, FF K.1 m9 mr (rp9 K S z) a) H := fun a ha => by
    have ha0 := hLs a ha
    obtain ⟨j, hj⟩ := List.mem_iff_getElem?.mp (sT_mem (F := FF K.1 m9 mr S) ha0)
    have h9 := hP.tl j _ hj
    rcases List.mem_cons.mp ha with rfl | ha1
    · rw [FF_m]; rw [FF_m] at h9; exact h9
    rcases List.mem_append.mp ha1 with ha2 | ha2
    · obtain ⟨r, hr, rfl⟩ := List.mem_map.mp ha2
      have hn9 : mr r ≠ m9 := fun e => (List.nodup_cons.mp hnd).1 (List.mem_append_left _ (by rw [← e]; exact List.mem_map.mpr ⟨r, hr, rfl⟩))
      rw [FF_r hi hr hn9] at h9 ⊢
      exact h9
    · have a9 : a ≠ m9 := fun e => (List.nodup_cons.mp hnl).1 (List.mem_append_right _ (by rw [← e]; exact ha2))
      have ar : ∀ r ∈ rwL, mr r ≠ a := fun r hr e => (List.nodup_append.mp (List.nodup_cons.mp hnl).2).2.2 (mr r) (List.mem_map.mpr ⟨r, hr, rfl⟩) a ha2 e
      rw [FF_l a9 ar] at h9 ⊢
      obtain ⟨u, hu, e⟩ := rp9_m ha2
      rcases hS.2.2.2.1 u hu with w | ⟨b, f, w1, w2, w3, w4⟩
      · rw [e] at w; cases w
      · rw [e] at w1; cases w1
        rw [w3] at h9
        have e2 : ZF (rp9 K S z) a = .inl (K.1 0, 1, .inl (fun j => if j = 0 then f 0 else 1)) := by
          show (match ZF S a with
            | .inl (k, 1, .inl f) => (.inl (k, 1, .inl (fun j => if j = 0 then f 0 else 1)) : va_E)
            | c => c) = _
          rw [w3]; rfl
        rw [e2]
        exact at_cg h9 (cell_i (fun j hj => by obtain rfl : j = 0 := (by omega); exact (if_pos rfl).symm))
  have hw : ∀ q ∈ V ++ rfW K.1 m9 mr (rp9 K S z), va_at D vwCl q H := fun q hq => by
    rcases List.mem_append.mp hq with hq | hq
    · obtain ⟨j, hj⟩ := List.mem_iff_getElem?.mp hq
      exact va_fstP hP j _ hj
    · obtain ⟨a, ha, rfl⟩ := List.mem_map.mp hq
      exact hat a ha
  refine ⟨fun k q hq => hw q (List.mem_of_getElem? hq), ?_⟩
  have hV := hD.fst
  have hN : va_D A (rfW K.1 m9 mr (rp9 K S z)) := sT_D hnl (fun a ha => sT_A hD.tl (hLs a ha))
  have hcr : ∀ (i j : Nat) (p q : Nat × va_E), V[i]? = some p → (rfW K.1 m9 mr (rp9 K S z))[j]? = some q → p.1 ≠ q.1 := fun i j p q hp hq e => by
    obtain ⟨a, ha, e2⟩ := List.mem_map.mp (List.mem_of_getElem? hq)
    obtain ⟨j2, hj2⟩ := List.mem_iff_getElem?.mp (sT_mem (F := FF K.1 m9 mr S) (hLs a ha))
    exact hD.ft hp hj2 (by rw [e, ← e2])
  refine ⟨fun i j p q hp hq e => ?_, fun k q hq => ?_⟩
  · rcases Nat.lt_or_ge i V.length with zi | zi
    · rw [List.getElem?_append_left zi] at hp
      rcases Nat.lt_or_ge j V.length with zj | zj
      · rw [List.getElem?_append_left zj] at hq
        exact hV.1 i j p q hp hq e
      · rw [List.getElem?_append_right zj] at hq
        exact absurd e (hcr _ _ p q hp hq)
    · rw [List.getElem?_append_right zi] at hp
      rcases Nat.lt_or_ge j V.length with zj | zj
      · rw [List.getElem?_append_left zj] at hq
        exact absurd e.symm (hcr _ _ q p hq hp)
      · rw [List.getElem?_append_right zj] at hq
        have := hN.1 _ _ p q hp hq e
        omega
  · rcases Nat.lt_or_ge k V.length with z | z
    · rw [List.getElem?_append_left z] at hq
      exact hV.2 k q hq
    · rw [List.getElem?_append_right z] at hq
      exact hN.2 _ q hq
end LW1
