set_option maxRecDepth 100000 in
theorem fl_ex : (.exactly (.string "OwnedPlaces$Text" 57) "java/lang/String" : Cond) ∈ flatC (Jvm.Cond.and given_1 narrow_1) := List.mem_of_getElem? (i := 121) (by decide +kernel)
set_option maxRecDepth 100000 in
theorem fl_co : (.eq (.field (.string "OwnedPlaces$Text" 57) "java/lang/String" "coder" "B") (.int 0) : Cond) ∈ flatC (Jvm.Cond.and given_1 narrow_1) := List.mem_of_getElem? (i := 122) (by decide +kernel)
set_option maxRecDepth 100000 in
theorem fl_ar : (.arrayOf (.field (.string "OwnedPlaces$Text" 57) "java/lang/String" "value" "[B") .byte : Cond) ∈ flatC (Jvm.Cond.and given_1 narrow_1) := List.mem_of_getElem? (i := 123) (by decide +kernel)
set_option maxRecDepth 100000 in
theorem fl_le : (.eq (.length (.field (.string "OwnedPlaces$Text" 57) "java/lang/String" "value" "[B")) (.int (Int32.ofNat 100)) : Cond) ∈ flatC (Jvm.Cond.and given_1 narrow_1) := List.mem_of_getElem? (i := 124) (by decide +kernel)
set_option maxRecDepth 100000 in
theorem fl_cs : (.eq (.static "java/lang/String" "COMPACT_STRINGS" "Z") (.int 1) : Cond) ∈ flatC (Jvm.Cond.and given_1 narrow_1) := List.mem_of_getElem? (i := 4) (by decide +kernel)
set_option maxRecDepth 100000 in
theorem fl_si : (.isRef (.static "jdk/internal/util/Preconditions" "SIOOBE_FORMATTER" "Ljava/util/function/BiFunction;") : Cond) ∈ flatC (Jvm.Cond.and given_1 narrow_1) := List.mem_of_getElem? (i := 5) (by decide +kernel)
def txB : List Int32 := [115, 116, 114, 117, 99, 116, 32, 101, 110, 117, 109, 32, 102, 110, 32, 108, 101, 116, 32, 109, 117, 116, 32, 105, 102, 32, 101, 108, 115, 101, 32, 119, 104, 105, 108, 101, 32, 109, 97, 116, 99, 104, 32, 114, 101, 116, 117, 114, 110, 32, 112, 114, 105, 110, 116, 32, 114, 101, 97, 100, 32, 116, 114, 117, 101, 32, 102, 97, 108, 115, 101, 32, 98, 111, 120, 32, 110, 101, 119, 32, 116, 111, 107, 101, 110, 32, 105, 110, 116, 32, 98, 111, 111, 108, 32, 109, 97, 105, 110, 32]
def txF (j : Nat) : Cond := .eq (.elem (.field (.string "OwnedPlaces$Text" 57) "java/lang/String" "value" "[B") (.int (Int32.ofNat j))) (.int (txB.getD j 0))
set_option maxRecDepth 100000 in
theorem txt_eq : ((flatC (Jvm.Cond.and given_1 narrow_1)).drop 125).take 100 = (List.range 100).map txF := by decide +kernel
theorem txt_in (j : Nat) (hj : j < 100) : txF j ∈ flatC (Jvm.Cond.and given_1 narrow_1) := by
  have h : txF j ∈ (List.range 100).map txF := List.mem_map.mpr ⟨j, List.mem_range.mpr hj, rfl⟩
  rw [← txt_eq] at h
  exact List.mem_of_mem_drop (List.mem_of_mem_take h)
