def wdL : List Int64 := [126943973696372, 1701737837, 26222, 7103860, 7173492, 26982, 1701606245, 512852847717, 469786452840, 125780071117422, 482955849332, 1953658213, 439721161573, 6451064, 7234935, 500085515630, 6909556, 1651470188, 1919246692]
def sfL : List Int32 := [61, 33, 60, 62, 38, 124, 58, 45, 61, 43, 45, 42, 47, 37, 60, 62, 33, 61, 38, 46, 44, 58, 59, 40, 41, 123, 125]
def ssL : List Int32 := [61, 61, 61, 61, 38, 124, 58, 62, 62, 0, 0, 0, 0, 0, 0, 0, 0, 0, 0, 0, 0, 0, 0, 0, 0, 0, 0]
def skL : List Int32 := [45, 46, 48, 50, 51, 52, 59, 65, 66, 40, 41, 42, 43, 44, 47, 49, 53, 54, 55, 56, 57, 58, 60, 61, 62, 63, 64]
def wnL : List Nat := [6, 4, 2, 3, 3, 2, 4, 5, 5, 6, 5, 4, 5, 3, 3, 5, 3, 4, 4]
/-- the static rows of the reference, outside what is changed -/
def stA (t0 t1 t2 t3 : Nat) (A : Nat → Prop) (U : State) (H : Heap) : Prop := (va_Z "OwnedPlacesModel" "WORDS" "[J" (.ref t0) A U H ∧ va_T .long t0 19 (fun j => .long (wdL.getD j 0)) A U H) ∧ (va_Z "OwnedPlacesModel" "SIGN_FIRST" "[I" (.ref t1) A U H ∧ va_T .int t1 27 (fun j => .int (sfL.getD j 0)) A U H) ∧ (va_Z "OwnedPlacesModel" "SIGN_SECOND" "[I" (.ref t2) A U H ∧ va_T .int t2 27 (fun j => .int (ssL.getD j 0)) A U H) ∧ (va_Z "OwnedPlacesModel" "SIGN_KIND" "[I" (.ref t3) A U H ∧ va_T .int t3 27 (fun j => .int (skL.getD j 0)) A U H)
theorem stA.moved {t0 t1 t2 t3 : Nat} {A : Nat → Prop} {u U : State} {H : Heap} (hvm : u.vm.Alike U.vm) (h : stA t0 t1 t2 t3 A u H) : stA t0 t1 t2 t3 A U H := ⟨⟨h.1.1.moved hvm, h.1.2.moved hvm⟩, ⟨h.2.1.1.moved hvm, h.2.1.2.moved hvm⟩, ⟨h.2.2.1.1.moved hvm, h.2.2.1.2.moved hvm⟩, ⟨h.2.2.2.1.moved hvm, h.2.2.2.2.moved hvm⟩⟩
theorem stA.kept {t0 t1 t2 t3 : Nat} {A : Nat → Prop} {U : State} {H H1 : Heap} (h : stA t0 t1 t2 t3 A U H) (hq : ∀ a : Nat, a < H.size → ¬ A a → H1[a]? = H[a]?) : stA t0 t1 t2 t3 A U H1 := ⟨⟨h.1.1.kept hq, h.1.2.kept hq⟩, ⟨h.2.1.1.kept hq, h.2.1.2.kept hq⟩, ⟨h.2.2.1.1.kept hq, h.2.2.1.2.kept hq⟩, ⟨h.2.2.2.1.kept hq, h.2.2.2.2.kept hq⟩⟩
theorem stA.narrow {t0 t1 t2 t3 : Nat} {A B : Nat → Prop} {U : State} {H : Heap} (h : stA t0 t1 t2 t3 A U H) (hAB : ∀ q, B q → A q) : stA t0 t1 t2 t3 B U H := ⟨⟨h.1.1.narrow hAB, h.1.2.narrow hAB⟩, ⟨h.2.1.1.narrow hAB, h.2.1.2.narrow hAB⟩, ⟨h.2.2.1.1.narrow hAB, h.2.2.1.2.narrow hAB⟩, ⟨h.2.2.2.1.narrow hAB, h.2.2.2.2.narrow hAB⟩⟩
def shW (x : Int64) (n : Nat) : Int64 := ((x : Int64).toUInt64 >>> ((8 * nI n : Int32).toInt64.toUInt64 &&& Int64.toUInt64 63)).toInt64
def wlW (x : Int64) (N : Nat) : Prop := N ≤ 6 ∧ (∀ n : Nat, n < N → ¬ shW x n = 0) ∧ shW x N = 0
theorem wdL_o0 : ∀ j : Nat, j < 19 → wnL.getD j 0 ≤ 6 ∧ (∀ n : Nat, n < wnL.getD j 0 → ¬ shW (wdL.getD j 0) n = 0) ∧ shW (wdL.getD j 0) (wnL.getD j 0) = 0 := by decide +kernel
theorem wdL_ok : ∀ j : Nat, j < 19 → wlW (wdL.getD j 0) (wnL.getD j 0) := fun j hj => wdL_o0 j hj
theorem ssL_ok : ∀ j : Nat, j < 27 → ssL.getD j 0 ≠ -1 := by decide +kernel
theorem skL_ok : ∀ j : Nat, j < 27 → skL.getD j 0 ≠ 0 ∧ skL.getD j 0 ≠ 19 := by decide +kernel
/-- the first T tokens: where they begin and end, up to e -/
def tkR (fk fa fe : Nat → Int32) (T e : Nat) : Prop := ∃ a b : Nat → Nat, (∀ j : Nat, j < T → fa j = nI (a j) ∧ fe j = nI (b j) ∧ a j < b j ∧ b j ≤ e ∧ fk j ≠ 0 ∧ (fk j = 19 → b j = a j + 6)) ∧ ∀ j : Nat, j + 1 < T → b j ≤ a (j + 1)
theorem tkR_0 {fk fa fe : Nat → Int32} {e : Nat} : tkR fk fa fe 0 e := ⟨fun _ => 0, fun _ => 0, fun j h => absurd h (by omega), fun j h => absurd h (by omega)⟩
theorem tkR_up {fk fa fe : Nat → Int32} {T e e2 : Nat} (h : tkR fk fa fe T e) (he : e ≤ e2) : tkR fk fa fe T e2 := by
  obtain ⟨a, b, h1, h2⟩ := h
  exact ⟨a, b, fun j hj => ⟨(h1 j hj).1, (h1 j hj).2.1, (h1 j hj).2.2.1, Nat.le_trans (h1 j hj).2.2.2.1 he, (h1 j hj).2.2.2.2⟩, h2⟩
theorem tkR_add {fk fa fe : Nat → Int32} {T e x y : Nat} {k : Int32} (h : tkR fk fa fe T e) (hx : e ≤ x) (hy : x < y) (hk : k ≠ 0) (hk9 : k = 19 → y = x + 6) : tkR (upd fk T k) (upd fa T (nI x)) (upd fe T (nI y)) (T + 1) y := by
  obtain ⟨a, b, h1, h2⟩ := h
  refine ⟨fun j => if j = T then x else a j, fun j => if j = T then y else b j, fun j hj => ?_, fun j hj => ?_⟩
  · by_cases e1 : j = T
    · subst e1
      dsimp only
      rw [pk_us, pk_us, pk_us, if_pos rfl, if_pos rfl]
      exact ⟨rfl, rfl, hy, Nat.le_refl _, hk, hk9⟩
    · dsimp only
      rw [pk_un e1, pk_un e1, pk_un e1, if_neg e1, if_neg e1]
      obtain ⟨g1, g2, g3, g4, g5⟩ := h1 j (by omega)
      exact ⟨g1, g2, g3, by omega, g5⟩
  · dsimp only
    rw [if_neg (show j ≠ T by omega)]
    by_cases e1 : j + 1 = T
    · rw [if_pos e1]
      have := (h1 j (by omega)).2.2.2.1
      omega
    · rw [if_neg e1]
      exact h2 j (by omega)
/-- all tokens of a text of zs bytes -/
def tkF (fk fa fe : Nat → Int32) (T zs : Nat) : Prop := 1 ≤ T ∧ T ≤ zs + 1 ∧ tkR fk fa fe (T - 1) zs ∧ fk (T - 1) = 0 ∧ fa (T - 1) = nI zs ∧ fe (T - 1) = nI zs
