theorem all_gv (l : Launch) (dC : Nat → ClassId) (dI : Nat → Nat → Nat) : ∀ k : Nat, IH_gv l dC dI k
  | 0 => ⟨c_vst l dC dI 0 (fun _ h => absurd h (by omega)), c_var l dC dI 0 (fun _ h => absurd h (by omega))⟩
  | k + 1 => ⟨c_vst l dC dI (k + 1) (fun k1 h => by obtain rfl : k = k1 := (by omega); exact all_gv l dC dI k), c_var l dC dI (k + 1) (fun k1 h => by obtain rfl : k = k1 := (by omega); exact all_gv l dC dI k)⟩
theorem c_vstA (l : Launch) (dC : Nat → ClassId) (dI : Nat → Nat → Nat) (k : Nat) : st_c_vst l dC dI k := c_vst l dC dI k (fun k1 _ => all_gv l dC dI k1)
theorem c_vblA (l : Launch) (dC : Nat → ClassId) (dI : Nat → Nat → Nat) (k : Nat) : st_c_vbl l dC dI k := c_vbl l dC dI k (fun k1 _ => all_gv l dC dI k1)
theorem c_varA (l : Launch) (dC : Nat → ClassId) (dI : Nat → Nat → Nat) (k : Nat) : st_c_var l dC dI k := c_var l dC dI k (fun k1 _ => all_gv l dC dI k1)
theorem c_vltA (l : Launch) (dC : Nat → ClassId) (dI : Nat → Nat → Nat) (k : Nat) : st_c_vlt l dC dI k := c_vlt l dC dI k (fun k1 _ => all_gv l dC dI k1)
theorem c_vplA (l : Launch) (dC : Nat → ClassId) (dI : Nat → Nat → Nat) (k : Nat) : st_c_vpl l dC dI k := c_vpl l dC dI k (fun k1 _ => all_gv l dC dI k1)
theorem c_vbrA (l : Launch) (dC : Nat → ClassId) (dI : Nat → Nat → Nat) (k : Nat) : st_c_vbr l dC dI k := c_vbr l dC dI k (fun k1 _ => all_gv l dC dI k1)
theorem c_vmaA (l : Launch) (dC : Nat → ClassId) (dI : Nat → Nat → Nat) (k : Nat) : st_c_vma l dC dI k := c_vma l dC dI k (fun k1 _ => all_gv l dC dI k1)
