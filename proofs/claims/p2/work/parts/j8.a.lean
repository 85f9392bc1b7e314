/-- a cell that was taken out of the store goes back, changed -/
theorem va_P.bk {D : va_G} {cl : List vw_C} {f : va_W} {L : List Nat} {F : Nat → va_E} {H : Heap} {a : Nat} {c : va_E} (ha : a ∈ L) (h : va_P D cl ((f ++ [(a, c)]) ++ sT (L.erase a) F) H) : va_P D cl (f ++ sT L (updE F a c)) H :=
  h.turn (fun q hq => by
    rcases List.mem_append.mp hq with hq | hq
    · exact List.mem_append_left _ (List.mem_append_left _ hq)
    · obtain ⟨b, hb, rfl⟩ := List.mem_map.mp hq
      by_cases e : b = a
      · subst e; rw [updE_s]; exact List.mem_append_left _ (List.mem_append_right _ (List.mem_singleton.mpr rfl))
      · rw [updE_n e]; exact List.mem_append_right _ (sT_mem ((List.mem_erase_of_ne e).mpr hb)))
theorem va_D.bk {A : Nat → Prop} {f : va_W} {L : List Nat} {F : Nat → va_E} {a : Nat} {c : va_E} (ha : a ∈ L) (h : va_D A ((f ++ [(a, c)]) ++ sT (L.erase a) F)) : va_D A (f ++ sT L (updE F a c)) := by
  have hn := h.nin
  refine h.perm ?_
  rw [List.append_assoc]
  refine List.Perm.append_left f ?_
  have e : ([(a, c)] : va_W) ++ sT (L.erase a) F = sT (a :: L.erase a) (updE F a c) := by
    show (a, c) :: sT (L.erase a) F = (a, updE F a c a) :: sT (L.erase a) (updE F a c)
    rw [updE_s, sT_upd hn]
  rw [e]
  exact ((List.perm_cons_erase ha).map (fun b => (b, updE F a c b))).symm
theorem mem_er {L : List Nat} {F : Nat → va_E} {a b : Nat} (hb : b ∈ L) (h : F b ≠ F a) : b ∈ L.erase a := (List.mem_erase_of_ne (fun e => h (by rw [e]))).mpr hb
/-- an entry of a blank row is written -/
theorem cs_ro {n : Nat} {k : ClassId} {f f3 : Nat → Option Nat} {x : va_E} (hx : x = .inl (k, n, .inr (.inr (.inr (.inr f))))) (hf : ∀ i : Nat, f i = none) : cs x (.inl (k, n, .inr (.inr (.inr (.inr f3))))) := by
  subst hx; exact ⟨rfl, rfl, Or.inr hf⟩
theorem cs_ri {n : Nat} {k : ClassId} {f f3 : Nat → Int32} {x : va_E} (hx : x = .inl (k, n, .inl f)) (hf : ∀ i : Nat, f i = 0) : cs x (.inl (k, n, .inl f3)) := by
  subst hx; exact ⟨rfl, rfl, Or.inr hf⟩
/-- the store is written at a: the typing's state stays -/
theorem tgd_up {L : List Nat} {F G : Nat → va_E} {fk fa fe : Nat → Int32} {T zs : Nat} {kE kI kS kB kA kV kW kT kP : ClassId} {fi : Nat → Option Nat} {im : Nat} {xI ps ms : Nat → Nat} {ik : Nat → Int32} {qz : Nat} {fy : Nat → Option Nat} {tm : Nat} {Y : Nat → Int32 × Int32 × Option Nat} {ad : Nat → Nat} {a : Nat} {x : va_E} (h : tgd L F G fk fa fe T zs kE kI kS kB kA kV kW kT kP fi im xI ps ms ik qz fy tm Y ad) (hx : cs (G a) x) : tgd L (updE F a x) G fk fa fe T zs kE kI kS kB kA kV kW kT kP fi im xI ps ms ik qz fy tm Y ad := ⟨h.1, rl_up h.2.1 hx, h.2.2⟩
