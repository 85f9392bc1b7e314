/-- bit c of x -/
def ibit (x : Int32) (c : Nat) : Bool := x.toBitVec.getLsbD c
theorem ibit_or (x y : Int32) (c : Nat) : ibit (x ||| y) c = (ibit x c || ibit y c) := by unfold ibit; rw [Int32.toBitVec_or, BitVec.getLsbD_or]
theorem ibit_and (x y : Int32) (c : Nat) : ibit (x &&& y) c = (ibit x c && ibit y c) := by unfold ibit; rw [Int32.toBitVec_and, BitVec.getLsbD_and]
theorem ibit_0 (c : Nat) : ibit 0 c = false := by show (0#32).getLsbD c = false; exact BitVec.getLsbD_zero
theorem ibit_nI {a c : Nat} (h : c < 32) : ibit (nI a) c = a.testBit c := by
  unfold ibit
  rw [nI_bv, BitVec.getLsbD_ofNat, decide_eq_true h, Bool.true_and]
theorem ibit_not (x : Int32) (c : Nat) (h : c < 32) : ibit (x ^^^ -1) c = !ibit x c := by
  unfold ibit
  rw [Int32.toBitVec_xor, BitVec.getLsbD_xor]
  have : (-1 : Int32).toBitVec.getLsbD c = true := by
    have : ∀ v : Fin 32, (-1 : Int32).toBitVec.getLsbD v.1 = true := by decide
    exact this ⟨c, h⟩
  rw [this, Bool.xor_true]
/-- bits from o on, z of them -/
theorem tb_rng {z o c : Nat} : ((2 ^ z - 1) * 2 ^ o).testBit c = (decide (o ≤ c) && decide (c < o + z)) := by
  rw [← Nat.shiftLeft_eq, Nat.testBit_shiftLeft, Nat.testBit_two_pow_sub_one]
  by_cases h : o ≤ c
  · rw [decide_eq_true h]
    show (true && decide (c - o < z)) = (true && decide (c < o + z))
    congr 1
    exact decide_eq_decide.mpr (by omega)
  · rw [decide_eq_false h]; rfl
theorem iS_bit {x y : Int32} (h : iS x y) {c : Nat} (hc : ibit x c = true) : ibit y c = true := by
  obtain ⟨z, rfl⟩ := h
  rw [ibit_or, hc]; rfl
/-- the cells of the way π of a variable of type T0 -/
def inW (y : qY) (z : qZ) (T0 : Nat) (π : lLc) (c : Nat) : Prop := ∃ T : Nat, qW y T0 π T ∧ qA y z (fun _ => 0) T0 0 π ≤ c ∧ c < qA y z (fun _ => 0) T0 0 π + z.1 T
/-- a cell of it may be without a value, by the bits x -/
def loF (y : qY) (z : qZ) (T0 : Nat) (x : Int32) (π : lLc) : Prop := ∃ c : Nat, c < 16 ∧ inW y z T0 π c ∧ ibit x c = true
theorem loF_up {y : qY} {z : qZ} {T0 : Nat} {x x2 : Int32} {π : lLc} (h : iS x x2) (hl : loF y z T0 x π) : loF y z T0 x2 π := by
  obtain ⟨c, c1, c2, c3⟩ := hl
  exact ⟨c, c1, c2, iS_bit h c3⟩
/-- one lies on the other's way: a cell of both -/
theorem inW_cmp {y : qY} {z : qZ} {T0 T U : Nat} {π σ : lLc} (hz : qLy y z) (hπ : qW y T0 π T) (hσ : qW y T0 σ U) (h1 : qN π) (h2 : qN σ) (h : lCmp π σ) : ∃ c : Nat, inW y z T0 π c ∧ inW y z T0 σ c := by
  have key : ∀ (ρ τ : lLc) (A B : Nat), qW y T0 ρ A → qW y T0 (ρ ++ τ) B → qN (ρ ++ τ) → inW y z T0 ρ (qA y z (fun _ => 0) T0 0 (ρ ++ τ)) ∧ inW y z T0 (ρ ++ τ) (qA y z (fun _ => 0) T0 0 (ρ ++ τ)) := fun ρ τ A B a1 a2 a3 => by
    have a4 := qW_rest a2 a1
    have a5 : qN τ := fun x hx => a3 x (List.mem_append_right _ hx)
    have q := qA_in (c := fun _ => 0) (a := qA y z (fun _ => 0) T0 0 ρ) hz a4 a5
    have hB := hz.1 B
    refine ⟨⟨A, a1, ?_, ?_⟩, ⟨B, a2, Nat.le_refl _, by omega⟩⟩
    · rw [qA_app a1]; exact q.1
    · rw [qA_app a1]; omega
  rcases h with ⟨τ, rfl⟩ | ⟨τ, rfl⟩
  · exact ⟨_, key π τ T U hπ hσ h2⟩
  · obtain ⟨k1, k2⟩ := key σ τ U T hσ hπ h1
    exact ⟨_, k2, k1⟩
/-- the bits of a place's cells: of a way of members all of it; behind a star the first box's -/
theorem pc_bit {ds os : List Nat} {o n z : Nat} {pa ro : Int32} (h : pW ds os o n pa ro) (hn : n ≤ 4) (hz : o + z ≤ 16) {c : Nat} (hc : c < 32) : ibit (pCells ro (nI z)) c = (if os = [] then (decide (o ≤ c) && decide (c < o + z)) else decide (c = (os ++ [o]).head?.getD 0)) := by
  obtain ⟨h1, h2, h3, h4, h5, h6, h7⟩ := h
  have hlt := dgP_lt6 h6 h7
  have h16 : (16 : Nat) ^ (os.length + 1) ≤ 16 ^ 5 := Nat.pow_le_pow_right (by decide) (by omega)
  have h165 : (16 : Nat) ^ 5 = 1048576 := by decide
  have e1 : ro &&& 15 = nI os.length := by rw [h4, nI_and15]; congr 1; omega
  have e2 : (ro >>> ((4 : Int32) &&& 31)) &&& 15 = nI (dgP (os ++ [o]) % 16) := by
    rw [h4, show (4 : Int32) &&& 31 = nI 4 &&& 31 from rfl, nI_shr (by omega) (by decide), nI_and15]; congr 1; omega
  unfold pCells
  rw [e1, e2]
  by_cases c1 : os = []
  · subst c1
    rw [if_pos rfl, if_neg (by decide)]
    have e3 : dgP ([] ++ [o]) % 16 = o := by show (o + 16 * 0) % 16 = o; omega
    have e4 : ((1 : Int32) <<< (nI z &&& 31)) - 1 = nI (2 ^ z - 1) := by
      have : ∀ v : Fin 17, ((1 : Int32) <<< (nI v.1 &&& 31)) - 1 = nI (2 ^ v.1 - 1) := by decide
      exact this ⟨z, by omega⟩
    rw [e3, e4, nI_shl (by omega), ibit_nI hc, tb_rng]
  · rw [if_neg c1, if_pos (by
      cases os with
      | nil => exact absurd rfl c1
      | cons x os' =>
        show (0 : Int32) < nI (os'.length + 1)
        exact (nI_ltI (a := 0) (b := os'.length + 1) (by decide) (by have : os'.length + 1 ≤ n := h5; omega)).mpr (by omega))]
    cases os with
    | nil => exact absurd rfl c1
    | cons x os' =>
      have hx := h6 x List.mem_cons_self
      have e3 : dgP ((x :: os') ++ [o]) % 16 = x := by show (x + 16 * dgP (os' ++ [o])) % 16 = x; omega
      rw [e3, show (1 : Int32) = nI 1 from rfl, nI_shl (by omega), ibit_nI hc, Nat.one_mul, Nat.testBit_two_pow]
      show decide (x = c) = decide (c = x)
      exact decide_eq_decide.mpr ⟨Eq.symm, Eq.symm⟩
