theorem all_gx (l : Launch) (dC : Nat → ClassId) (dI : Nat → Nat → Nat) : ∀ k : Nat, IH_gx l dC dI k
  | 0 => ⟨c_xc2 l dC dI 0 (fun _ h => absurd h (by omega)), c_xc3 l dC dI 0 (fun _ h => absurd h (by omega)), c_xc4 l dC dI 0 (fun _ h => absurd h (by omega)), c_xc5 l dC dI 0 (fun _ h => absurd h (by omega)), c_xc6 l dC dI 0 (fun _ h => absurd h (by omega)), c_xuy l dC dI 0 (fun _ h => absurd h (by omega)), c_xex l dC dI 0 (fun _ h => absurd h (by omega))⟩
  | k + 1 => ⟨c_xc2 l dC dI (k + 1) (fun k1 h => by obtain rfl : k = k1 := (by omega); exact all_gx l dC dI k), c_xc3 l dC dI (k + 1) (fun k1 h => by obtain rfl : k = k1 := (by omega); exact all_gx l dC dI k), c_xc4 l dC dI (k + 1) (fun k1 h => by obtain rfl : k = k1 := (by omega); exact all_gx l dC dI k), c_xc5 l dC dI (k + 1) (fun k1 h => by obtain rfl : k = k1 := (by omega); exact all_gx l dC dI k), c_xc6 l dC dI (k + 1) (fun k1 h => by obtain rfl : k = k1 := (by omega); exact all_gx l dC dI k), c_xuy l dC dI (k + 1) (fun k1 h => by obtain rfl : k = k1 := (by omega); exact all_gx l dC dI k), c_xex l dC dI (k + 1) (fun k1 h => by obtain rfl : k = k1 := (by omega); exact all_gx l dC dI k)⟩
theorem c_xprA (l : Launch) (dC : Nat → ClassId) (dI : Nat → Nat → Nat) (k : Nat) : st_c_xpr l dC dI k := c_xpr l dC dI k (fun k1 _ => all_gx l dC dI k1)
theorem c_xsuA (l : Launch) (dC : Nat → ClassId) (dI : Nat → Nat → Nat) (k : Nat) : st_c_xsu l dC dI k := c_xsu l dC dI k (fun k1 _ => all_gx l dC dI k1)
theorem c_xuyA (l : Launch) (dC : Nat → ClassId) (dI : Nat → Nat → Nat) (k : Nat) : st_c_xuy l dC dI k := c_xuy l dC dI k (fun k1 _ => all_gx l dC dI k1)
theorem c_xc6A (l : Launch) (dC : Nat → ClassId) (dI : Nat → Nat → Nat) (k : Nat) : st_c_xc6 l dC dI k := c_xc6 l dC dI k (fun k1 _ => all_gx l dC dI k1)
theorem c_xc5A (l : Launch) (dC : Nat → ClassId) (dI : Nat → Nat → Nat) (k : Nat) : st_c_xc5 l dC dI k := c_xc5 l dC dI k (fun k1 _ => all_gx l dC dI k1)
theorem c_xc4A (l : Launch) (dC : Nat → ClassId) (dI : Nat → Nat → Nat) (k : Nat) : st_c_xc4 l dC dI k := c_xc4 l dC dI k (fun k1 _ => all_gx l dC dI k1)
theorem c_xc3A (l : Launch) (dC : Nat → ClassId) (dI : Nat → Nat → Nat) (k : Nat) : st_c_xc3 l dC dI k := c_xc3 l dC dI k (fun k1 _ => all_gx l dC dI k1)
theorem c_xc2A (l : Launch) (dC : Nat → ClassId) (dI : Nat → Nat → Nat) (k : Nat) : st_c_xc2 l dC dI k := c_xc2 l dC dI k (fun k1 _ => all_gx l dC dI k1)
theorem c_xc1A (l : Launch) (dC : Nat → ClassId) (dI : Nat → Nat → Nat) (k : Nat) : st_c_xc1 l dC dI k := c_xc1 l dC dI k (fun k1 _ => all_gx l dC dI k1)
theorem c_xexA (l : Launch) (dC : Nat → ClassId) (dI : Nat → Nat → Nat) (k : Nat) : st_c_xex l dC dI k := c_xex l dC dI k (fun k1 _ => all_gx l dC dI k1)
theorem c_xbrA (l : Launch) (dC : Nat → ClassId) (dI : Nat → Nat → Nat) (k : Nat) : st_c_xbr l dC dI k := c_xbr l dC dI k (fun k1 _ => all_gx l dC dI k1)
theorem c_xli3A (l : Launch) (dC : Nat → ClassId) (dI : Nat → Nat → Nat) (k : Nat) : st_c_xli3 l dC dI k := c_xli3 l dC dI k (fun k1 _ => all_gx l dC dI k1)
theorem c_xli6A (l : Launch) (dC : Nat → ClassId) (dI : Nat → Nat → Nat) (k : Nat) : st_c_xli6 l dC dI k := c_xli6 l dC dI k (fun k1 _ => all_gx l dC dI k1)
theorem c_xnfA (l : Launch) (dC : Nat → ClassId) (dI : Nat → Nat → Nat) (k : Nat) : st_c_xnf l dC dI k := c_xnf l dC dI k (fun k1 _ => all_gx l dC dI k1)
theorem c_xnmA (l : Launch) (dC : Nat → ClassId) (dI : Nat → Nat → Nat) (k : Nat) : st_c_xnm l dC dI k := c_xnm l dC dI k (fun k1 _ => all_gx l dC dI k1)
