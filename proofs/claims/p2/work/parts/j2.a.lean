theorem va_P.nt {D : va_G} {cl : List vw_C} {f T : va_W} {c : Nat × va_E} {H : Heap} (h : va_P D cl ((f ++ T) ++ [c]) H) : va_P D cl ((f ++ [c]) ++ T) H := h.turn (fun q hq => by
  simp only [List.mem_append] at hq ⊢
  rcases hq with (hq | hq) | hq
  · exact Or.inl (Or.inl hq)
  · exact Or.inr hq
  · exact Or.inl (Or.inr hq))
theorem va_D.nt {A : Nat → Prop} {f T : va_W} {c : Nat × va_E} (h : va_D A ((f ++ T) ++ [c])) : va_D A ((f ++ [c]) ++ T) := h.perm (by
  rw [List.append_assoc, List.append_assoc]
  exact List.Perm.append_left f List.perm_append_comm)
/-- cells go into the store -/
theorem st_fileL {D : va_G} {cl : List vw_C} {A : Nat → Prop} {H : Heap} (g : va_W) : ∀ {f : va_W} {L : List Nat} {F : Nat → va_E}, va_P D cl ((f ++ g) ++ sT L F) H → va_D A ((f ++ g) ++ sT L F) → ∃ (L2 : List Nat) (F2 : Nat → va_E), exS L F L2 F2 ∧ (∀ q ∈ g, q.1 ∈ L2 ∧ F2 q.1 = q.2) ∧ va_P D cl (f ++ sT L2 F2) H ∧ va_D A (f ++ sT L2 F2) := by
  induction g with
  | nil =>
    intro f L F hP hD
    rw [List.append_nil] at hP hD
    exact ⟨L, F, exS.rf, fun q h => absurd h List.not_mem_nil, hP, hD⟩
  | cons c g ih =>
    intro f L F hP hD
    have e : f ++ (c :: g) = (f ++ [c]) ++ g := by rw [List.append_assoc]; rfl
    rw [e] at hP hD
    obtain ⟨L1, F1, h1, h2, h3, h4⟩ := ih hP hD
    have hn := va_D.nin (a := c.1) (c := c.2) h4
    refine ⟨c.1 :: L1, updE F1 c.1 c.2, h1.tr (exS.fi hn), ?_, va_P.fi (a := c.1) (c := c.2) h3 h4, va_D.fi (a := c.1) (c := c.2) h4⟩
    intro q hq
    rcases List.mem_cons.mp hq with rfl | hq
    · exact ⟨List.mem_cons_self, updE_s⟩
    · obtain ⟨g1, g2⟩ := h2 q hq
      exact ⟨List.mem_cons_of_mem _ g1, (updE_n (show q.1 ≠ c.1 from fun e => hn (e ▸ g1))).trans g2⟩

/-- the nest of the reference, and its rows of references -/
def nsM (U : State) : Prop := (va_Nw (.methodLinkNest RX23 109 yX22_init "OwnedPlacesModel") U ∧ va_Nw (.methodLinkNest RX23 158 yX17_init "OwnedPlacesModel") U ∧ va_Nw (.methodLinkNest RX23 224 yX16_init "OwnedPlacesModel") U ∧ va_Nw (.methodLinkNest RX23 238 yX14_init "OwnedPlacesModel") U ∧ va_Nw (.methodLinkNest RX23 254 yX19_init "OwnedPlacesModel") U ∧ va_Nw (.methodLinkNest RX23 325 yX13_init "OwnedPlacesModel") U ∧ va_Nw (.methodLinkNest RX23 349 yX15_init "OwnedPlacesModel") U ∧ va_Nw (.methodLinkNest RX23 393 yX20_init "OwnedPlacesModel") U ∧ va_Nw (.methodLinkNest RX23 465 yX21_init "OwnedPlacesModel") U) ∧ (va_AO RX15 U ∧ va_AO RX19 U ∧ va_AO RX14 U ∧ va_AO RX13 U ∧ va_AO RX22 U ∧ va_AO RX20 U ∧ va_AO RX17 U ∧ va_AO RX21 U)
theorem nsM.same {u U : State} (e : u.vm = U.vm) (h : nsM u) : nsM U := ⟨⟨va_Nw.same rfl e h.1.1, va_Nw.same rfl e h.1.2.1, va_Nw.same rfl e h.1.2.2.1, va_Nw.same rfl e h.1.2.2.2.1, va_Nw.same rfl e h.1.2.2.2.2.1, va_Nw.same rfl e h.1.2.2.2.2.2.1, va_Nw.same rfl e h.1.2.2.2.2.2.2.1, va_Nw.same rfl e h.1.2.2.2.2.2.2.2.1, va_Nw.same rfl e h.1.2.2.2.2.2.2.2.2⟩, ⟨va_AO.moved (by rw [e]; exact Vm.Alike.refl _) h.2.1, va_AO.moved (by rw [e]; exact Vm.Alike.refl _) h.2.2.1, va_AO.moved (by rw [e]; exact Vm.Alike.refl _) h.2.2.2.1, va_AO.moved (by rw [e]; exact Vm.Alike.refl _) h.2.2.2.2.1, va_AO.moved (by rw [e]; exact Vm.Alike.refl _) h.2.2.2.2.2.1, va_AO.moved (by rw [e]; exact Vm.Alike.refl _) h.2.2.2.2.2.2.1, va_AO.moved (by rw [e]; exact Vm.Alike.refl _) h.2.2.2.2.2.2.2.1, va_AO.moved (by rw [e]; exact Vm.Alike.refl _) h.2.2.2.2.2.2.2.2⟩⟩
theorem nsM.warm {s U : State} (hW : s.WarmedH U.vm) (h : nsM s) : nsM U := ⟨⟨va_Nw.warmM hW h.1.1, va_Nw.warmM hW h.1.2.1, va_Nw.warmM hW h.1.2.2.1, va_Nw.warmM hW h.1.2.2.2.1, va_Nw.warmM hW h.1.2.2.2.2.1, va_Nw.warmM hW h.1.2.2.2.2.2.1, va_Nw.warmM hW h.1.2.2.2.2.2.2.1, va_Nw.warmM hW h.1.2.2.2.2.2.2.2.1, va_Nw.warmM hW h.1.2.2.2.2.2.2.2.2⟩, ⟨va_AO.moved hW.alike h.2.1, va_AO.moved hW.alike h.2.2.1, va_AO.moved hW.alike h.2.2.2.1, va_AO.moved hW.alike h.2.2.2.2.1, va_AO.moved hW.alike h.2.2.2.2.2.1, va_AO.moved hW.alike h.2.2.2.2.2.2.1, va_AO.moved hW.alike h.2.2.2.2.2.2.2.1, va_AO.moved hW.alike h.2.2.2.2.2.2.2.2⟩⟩
theorem kne3 {fk : Nat → Int32} {T p : Nat} {K : Int32} (h0 : fk (T - 1) = 0) (hp : p < T) (hk : fk p = K) (hK : K ≠ 0) : p + 1 < T := by
  rcases Nat.lt_or_ge (p + 1) T with z | z
  · exact z
  · exact absurd (hk.symm.trans (by rw [show p = T - 1 by omega]; exact h0)) hK
