section LW8
theorem lw_eqi {args : Array Value} {s : State} {t : Term} {z : Int32} (h : (Cond.eq t (.int z)).before args s = true) : t.eval args s none [] s = some (.int z) := by
  have hz : (Term.int z).eval args s none [] s = some (.int z) := rfl
  cases hv : t.eval args s none [] s with
  | none => simp [Cond.before, Cond.holds, Cond.value, hv] at h
  | some w =>
    simp only [Cond.before, Cond.holds, Cond.value, hv, hz] at h
    cases w <;> simp_all
theorem lw_eql {args : Array Value} {s : State} {t : Term} {z : Int64} (h : (Cond.eq t (.long z)).before args s = true) : t.eval args s none [] s = some (.long z) := by
  have hz : (Term.long z).eval args s none [] s = some (.long z) := rfl
  cases hv : t.eval args s none [] s with
  | none => simp [Cond.before, Cond.holds, Cond.value, hv] at h
  | some w =>
    simp only [Cond.before, Cond.holds, Cond.value, hv, hz] at h
    cases w <;> simp_all
theorem lw_str {args : Array Value} {s : State} {A : Nat → Prop} {own : String} {k n : Nat} {byt : List Int32} (hn : n < 2 ^ 31) (hex : (Cond.exactly (.string own k) "java/lang/String").before args s = true) (hco : (Cond.eq (.field (.string own k) "java/lang/String" "coder" "B") (.int 0)).before args s = true) (har : (Cond.arrayOf (.field (.string own k) "java/lang/String" "value" "[B") .byte).before args s = true) (hle : (Cond.eq (.length (.field (.string own k) "java/lang/String" "value" "[B")) (.int (Int32.ofNat n))).before args s = true) (hel : ∀ j : Nat, j < n → (Cond.eq (.elem (.field (.string own k) "java/lang/String" "value" "[B") (.int (Int32.ofNat j))) (.int (byt.getD j 0))).before args s = true) (hcs : va_Z "java/lang/String" "COMPACT_STRINGS" "Z" (.int 1) A s s.heap) (hAn : ∀ a : Nat, a < s.heap.size → ¬ A a) : ∃ t v : Nat, sgA t v n (fun j => byt.getD j 0) A s s.heap ∧ (Term.string own k).eval args s none [] s = some (.ref t) := by
  obtain ⟨adK, adV, hvS, hvR⟩ := vk_Sof (args := args) (s := s) (N := 1) (tm := fun _ => .string own k) (len := [n]) (byt := [byt]) (A := A) (fun i hi => by obtain rfl : i = 0 := (by omega); exact hn) (fun i hi => hex) (fun i hi => hco) (fun i hi => har) (fun i hi => by obtain rfl : i = 0 := (by omega); exact hle) (fun i hi j hj => by obtain rfl : i = 0 := (by omega); exact hel j hj) (fun i j hi hj hne => absurd (by omega : i = j) hne) hAn
  obtain ⟨hs1, hs2, hs3, hs4⟩ := hvS.1 0 (by decide)
  exact ⟨adK 0, adV 0, ⟨hs1, hs2, hs3, hs4, hcs⟩, hvR 0 (by decide)⟩
theorem lw_sar {args : Array Value} {s : State} {A : Nat → Prop} {C n d : String} {ty : FieldType} {N : Nat} {f : Nat → Value} (hl : (Cond.laysStatic C n d).before args s = true) (hini : (Cond.initialized C).before args s = true) (hN : N < 2 ^ 31) (harr : (Cond.arrayOf (.static C n d) ty).before args s = true) (hlen : (Cond.eq (.length (.static C n d)) (.int (Int32.ofNat N))).before args s = true) (hel : ∀ j : Nat, j < N → (Term.elem (.static C n d) (.int (Int32.ofNat j))).eval args s none [] s = some (f j)) (hAn : ∀ a : Nat, a < s.heap.size → ¬ A a) : ∃ t : Nat, va_Z C n d (.ref t) A s s.heap ∧ va_T ty t N f A s s.heap := by
  obtain ⟨t, h1, h2⟩ := va_Tof (A := A) hN harr (lw_eqi hlen) hel hAn
  exact ⟨t, va_Zof hl hini h1 hAn, h2⟩
theorem kNeT {D : va_G} {cl : List vw_C} {tys : List (ClassId × FieldType)} {U : State} (hK : va_K D cl tys U) (i j : Nat) {t t2 : FieldType} {a b : ClassId} (hi : tys[i]? = some (a, t)) (hj : tys[j]? = some (b, t2)) (hne : t ≠ t2) : a ≠ b := by
  intro e
  subst e
  obtain ⟨_, k1, h1, c1, h2⟩ := (hK.2 i _ hi).1 0 (fun _ => .null)
  obtain ⟨_, k2, g1, c2, g2⟩ := (hK.2 j _ hj).1 0 (fun _ => .null)
  have e : k1 = k2 := Option.some.inj (h1.symm.trans g1)
  subst e
  rw [h2] at g2
  cases g2
  exact hne rfl
def tyL9 : List FieldType := [.int, .long, .boolean, .object RX16, .object RX20, .object RX21, .object RX18, .object RX13, .array .int, .object RX15, .object RX14, .object RX19, .object RX22, .object RX17]
theorem lw_dis {D : va_G} {cl : List vw_C} {U : State} {kc : Nat → ClassId} (hK : va_K D cl (TY kc) U) : ∀ i j : Nat, i < 14 → j < 14 → i ≠ j → kc i ≠ kc j := fun i j hi hj hne => by
  have hT : ∀ i : Nat, i < 14 → (TY kc)[i]? = some (kc i, tyL9.getD i .int) := fun i hi => by
    rcases (show i = 0 ∨ i = 1 ∨ i = 2 ∨ i = 3 ∨ i = 4 ∨ i = 5 ∨ i = 6 ∨ i = 7 ∨ i = 8 ∨ i = 9 ∨ i = 10 ∨ i = 11 ∨ i = 12 ∨ i = 13 by omega) with h | h | h | h | h | h | h | h | h | h | h | h | h | h <;> subst h <;> rfl
  have hd : ∀ i j : Fin 14, i ≠ j → tyL9.getD i.val .int ≠ tyL9.getD j.val .int := by decide +kernel
  exact kNeT hK i j (hT i hi) (hT j hj) (hd ⟨i, hi⟩ ⟨j, hj⟩ (fun e => hne (by injection e)))
set_option maxRecDepth 100000 in
theorem fl_cs : (.eq (.static "java/lang/String" "COMPACT_STRINGS" "Z") (.int 1) : Cond) ∈ flatC (Jvm.Cond.and given_1 narrow_1) := List.mem_of_getElem? (i := 4) (by decide +kernel)
set_option maxRecDepth 100000 in
theorem fl_si : (.isRef (.static "jdk/internal/util/Preconditions" "SIOOBE_FORMATTER" "Ljava/util/function/BiFunction;") : Cond) ∈ flatC (Jvm.Cond.and given_1 narrow_1) := List.mem_of_getElem? (i := 5) (by decide +kernel)
set_option maxRecDepth 100000 in
theorem fl_ex_a : (.exactly (.string "OwnedPlaces$Text" 57) "java/lang/String" : Cond) ∈ flatC (Jvm.Cond.and given_1 narrow_1) := List.mem_of_getElem? (i := 121) (by decide +kernel)
set_option maxRecDepth 100000 in
theorem fl_co_a : (.eq (.field (.string "OwnedPlaces$Text" 57) "java/lang/String" "coder" "B") (.int 0) : Cond) ∈ flatC (Jvm.Cond.and given_1 narrow_1) := List.mem_of_getElem? (i := 122) (by decide +kernel)
set_option maxRecDepth 100000 in
theorem fl_ar_a : (.arrayOf (.field (.string "OwnedPlaces$Text" 57) "java/lang/String" "value" "[B") .byte : Cond) ∈ flatC (Jvm.Cond.and given_1 narrow_1) := List.mem_of_getElem? (i := 123) (by decide +kernel)
set_option maxRecDepth 100000 in
theorem fl_le_a : (.eq (.length (.field (.string "OwnedPlaces$Text" 57) "java/lang/String" "value" "[B")) (.int (Int32.ofNat 100)) : Cond) ∈ flatC (Jvm.Cond.and given_1 narrow_1) := List.mem_of_getElem? (i := 124) (by decide +kernel)
def txB_a : List Int32 := [115, 116, 114, 117, 99, 116, 32, 101, 110, 117, 109, 32, 102, 110, 32, 108, 101, 116, 32, 109, 117, 116, 32, 105, 102, 32, 101, 108, 115, 101, 32, 119, 104, 105, 108, 101, 32, 109, 97, 116, 99, 104, 32, 114, 101, 116, 117, 114, 110, 32, 112, 114, 105, 110, 116, 32, 114, 101, 97, 100, 32, 116, 114, 117, 101, 32, 102, 97, 108, 115, 101, 32, 98, 111, 120, 32, 110, 101, 119, 32, 116, 111, 107, 101, 110, 32, 105, 110, 116, 32, 98, 111, 111, 108, 32, 109, 97, 105, 110, 32]
def txF_a (j : Nat) : Cond := .eq (.elem (.field (.string "OwnedPlaces$Text" 57) "java/lang/String" "value" "[B") (.int (Int32.ofNat j))) (.int (txB_a.getD j 0))
set_option maxRecDepth 100000 in
theorem txe_a : ((flatC (Jvm.Cond.and given_1 narrow_1)).drop 125).take 100 = (List.range 100).map txF_a := by decide +kernel
theorem txi_a (j : Nat) (hj : j < 100) : txF_a j ∈ flatC (Jvm.Cond.and given_1 narrow_1) := by
  have h : txF_a j ∈ (List.range 100).map txF_a := List.mem_map.mpr ⟨j, List.mem_range.mpr hj, rfl⟩
  rw [← txe_a] at h
  exact List.mem_of_mem_drop (List.mem_of_mem_take h)
set_option maxRecDepth 100000 in
theorem fl_ex_b : (.exactly (.string "OwnedPlaces$Text" 150) "java/lang/String" : Cond) ∈ flatC (Jvm.Cond.and given_1 narrow_1) := List.mem_of_getElem? (i := 225) (by decide +kernel)
set_option maxRecDepth 100000 in
theorem fl_co_b : (.eq (.field (.string "OwnedPlaces$Text" 150) "java/lang/String" "coder" "B") (.int 0) : Cond) ∈ flatC (Jvm.Cond.and given_1 narrow_1) := List.mem_of_getElem? (i := 226) (by decide +kernel)
set_option maxRecDepth 100000 in
theorem fl_ar_b : (.arrayOf (.field (.string "OwnedPlaces$Text" 150) "java/lang/String" "value" "[B") .byte : Cond) ∈ flatC (Jvm.Cond.and given_1 narrow_1) := List.mem_of_getElem? (i := 227) (by decide +kernel)
set_option maxRecDepth 100000 in
theorem fl_le_b : (.eq (.length (.field (.string "OwnedPlaces$Text" 150) "java/lang/String" "value" "[B")) (.int (Int32.ofNat 18)) : Cond) ∈ flatC (Jvm.Cond.and given_1 narrow_1) := List.mem_of_getElem? (i := 228) (by decide +kernel)
def txB_b : List Int32 := [61, 61, 33, 61, 60, 61, 62, 61, 38, 38, 124, 124, 58, 58, 45, 62, 61, 62]
def txF_b (j : Nat) : Cond := .eq (.elem (.field (.string "OwnedPlaces$Text" 150) "java/lang/String" "value" "[B") (.int (Int32.ofNat j))) (.int (txB_b.getD j 0))
set_option maxRecDepth 100000 in
theorem txe_b : ((flatC (Jvm.Cond.and given_1 narrow_1)).drop 229).take 18 = (List.range 18).map txF_b := by decide +kernel
theorem txi_b (j : Nat) (hj : j < 18) : txF_b j ∈ flatC (Jvm.Cond.and given_1 narrow_1) := by
  have h : txF_b j ∈ (List.range 18).map txF_b := List.mem_map.mpr ⟨j, List.mem_range.mpr hj, rfl⟩
  rw [← txe_b] at h
  exact List.mem_of_mem_drop (List.mem_of_mem_take h)
set_option maxRecDepth 100000 in
theorem fl_ex_c : (.exactly (.string "OwnedPlaces$Text" 152) "java/lang/String" : Cond) ∈ flatC (Jvm.Cond.and given_1 narrow_1) := List.mem_of_getElem? (i := 248) (by decide +kernel)
set_option maxRecDepth 100000 in
theorem fl_co_c : (.eq (.field (.string "OwnedPlaces$Text" 152) "java/lang/String" "coder" "B") (.int 0) : Cond) ∈ flatC (Jvm.Cond.and given_1 narrow_1) := List.mem_of_getElem? (i := 249) (by decide +kernel)
set_option maxRecDepth 100000 in
theorem fl_ar_c : (.arrayOf (.field (.string "OwnedPlaces$Text" 152) "java/lang/String" "value" "[B") .byte : Cond) ∈ flatC (Jvm.Cond.and given_1 narrow_1) := List.mem_of_getElem? (i := 250) (by decide +kernel)
set_option maxRecDepth 100000 in
theorem fl_le_c : (.eq (.length (.field (.string "OwnedPlaces$Text" 152) "java/lang/String" "value" "[B")) (.int (Int32.ofNat 18)) : Cond) ∈ flatC (Jvm.Cond.and given_1 narrow_1) := List.mem_of_getElem? (i := 251) (by decide +kernel)
def txB_c : List Int32 := [43, 45, 42, 47, 37, 60, 62, 33, 61, 38, 46, 44, 58, 59, 40, 41, 123, 125]
def txF_c (j : Nat) : Cond := .eq (.elem (.field (.string "OwnedPlaces$Text" 152) "java/lang/String" "value" "[B") (.int (Int32.ofNat j))) (.int (txB_c.getD j 0))
set_option maxRecDepth 100000 in
theorem txe_c : ((flatC (Jvm.Cond.and given_1 narrow_1)).drop 252).take 18 = (List.range 18).map txF_c := by decide +kernel
theorem txi_c (j : Nat) (hj : j < 18) : txF_c j ∈ flatC (Jvm.Cond.and given_1 narrow_1) := by
  have h : txF_c j ∈ (List.range 18).map txF_c := List.mem_map.mpr ⟨j, List.mem_range.mpr hj, rfl⟩
  rw [← txe_c] at h
  exact List.mem_of_mem_drop (List.mem_of_mem_take h)
set_option maxRecDepth 100000 in
theorem fl_ex_d : (.exactly (.string "OwnedPlaces$Machine" 274) "java/lang/String" : Cond) ∈ flatC (Jvm.Cond.and given_1 narrow_1) := List.mem_of_getElem? (i := 272) (by decide +kernel)
set_option maxRecDepth 100000 in
theorem fl_co_d : (.eq (.field (.string "OwnedPlaces$Machine" 274) "java/lang/String" "coder" "B") (.int 0) : Cond) ∈ flatC (Jvm.Cond.and given_1 narrow_1) := List.mem_of_getElem? (i := 273) (by decide +kernel)
set_option maxRecDepth 100000 in
theorem fl_ar_d : (.arrayOf (.field (.string "OwnedPlaces$Machine" 274) "java/lang/String" "value" "[B") .byte : Cond) ∈ flatC (Jvm.Cond.and given_1 narrow_1) := List.mem_of_getElem? (i := 274) (by decide +kernel)
set_option maxRecDepth 100000 in
theorem fl_le_d : (.eq (.length (.field (.string "OwnedPlaces$Machine" 274) "java/lang/String" "value" "[B")) (.int (Int32.ofNat 4)) : Cond) ∈ flatC (Jvm.Cond.and given_1 narrow_1) := List.mem_of_getElem? (i := 275) (by decide +kernel)
def txB_d : List Int32 := [116, 114, 117, 101]
def txF_d (j : Nat) : Cond := .eq (.elem (.field (.string "OwnedPlaces$Machine" 274) "java/lang/String" "value" "[B") (.int (Int32.ofNat j))) (.int (txB_d.getD j 0))
set_option maxRecDepth 100000 in
theorem txe_d : ((flatC (Jvm.Cond.and given_1 narrow_1)).drop 276).take 4 = (List.range 4).map txF_d := by decide +kernel
theorem txi_d (j : Nat) (hj : j < 4) : txF_d j ∈ flatC (Jvm.Cond.and given_1 narrow_1) := by
  have h : txF_d j ∈ (List.range 4).map txF_d := List.mem_map.mpr ⟨j, List.mem_range.mpr hj, rfl⟩
  rw [← txe_d] at h
  exact List.mem_of_mem_drop (List.mem_of_mem_take h)
set_option maxRecDepth 100000 in
theorem fl_ex_e : (.exactly (.string "OwnedPlaces$Machine" 276) "java/lang/String" : Cond) ∈ flatC (Jvm.Cond.and given_1 narrow_1) := List.mem_of_getElem? (i := 283) (by decide +kernel)
set_option maxRecDepth 100000 in
theorem fl_co_e : (.eq (.field (.string "OwnedPlaces$Machine" 276) "java/lang/String" "coder" "B") (.int 0) : Cond) ∈ flatC (Jvm.Cond.and given_1 narrow_1) := List.mem_of_getElem? (i := 284) (by decide +kernel)
set_option maxRecDepth 100000 in
theorem fl_ar_e : (.arrayOf (.field (.string "OwnedPlaces$Machine" 276) "java/lang/String" "value" "[B") .byte : Cond) ∈ flatC (Jvm.Cond.and given_1 narrow_1) := List.mem_of_getElem? (i := 285) (by decide +kernel)
set_option maxRecDepth 100000 in
theorem fl_le_e : (.eq (.length (.field (.string "OwnedPlaces$Machine" 276) "java/lang/String" "value" "[B")) (.int (Int32.ofNat 5)) : Cond) ∈ flatC (Jvm.Cond.and given_1 narrow_1) := List.mem_of_getElem? (i := 286) (by decide +kernel)
def txB_e : List Int32 := [102, 97, 108, 115, 101]
def txF_e (j : Nat) : Cond := .eq (.elem (.field (.string "OwnedPlaces$Machine" 276) "java/lang/String" "value" "[B") (.int (Int32.ofNat j))) (.int (txB_e.getD j 0))
set_option maxRecDepth 100000 in
theorem txe_e : ((flatC (Jvm.Cond.and given_1 narrow_1)).drop 287).take 5 = (List.range 5).map txF_e := by decide +kernel
theorem txi_e (j : Nat) (hj : j < 5) : txF_e j ∈ flatC (Jvm.Cond.and given_1 narrow_1) := by
  have h : txF_e j ∈ (List.range 5).map txF_e := List.mem_map.mpr ⟨j, List.mem_range.mpr hj, rfl⟩
  rw [← txe_e] at h
  exact List.mem_of_mem_drop (List.mem_of_mem_take h)
set_option maxRecDepth 100000 in
theorem fl_ar_w : (.arrayOf (.static "OwnedPlacesModel" "WORDS" "[J") .long : Cond) ∈ flatC (Jvm.Cond.and given_1 narrow_1) := List.mem_of_getElem? (i := 10) (by decide +kernel)
set_option maxRecDepth 100000 in
theorem fl_le_w : (.eq (.length (.static "OwnedPlacesModel" "WORDS" "[J")) (.int (Int32.ofNat 19)) : Cond) ∈ flatC (Jvm.Cond.and given_1 narrow_1) := List.mem_of_getElem? (i := 11) (by decide +kernel)
def txF_w (j : Nat) : Cond := .eq (.elem (.static "OwnedPlacesModel" "WORDS" "[J") (.int (Int32.ofNat j))) (.long (wdL.getD j 0))
set_option maxRecDepth 100000 in
theorem txe_w : ((flatC (Jvm.Cond.and given_1 narrow_1)).drop 12).take 19 = (List.range 19).map txF_w := by decide +kernel
theorem txi_w (j : Nat) (hj : j < 19) : txF_w j ∈ flatC (Jvm.Cond.and given_1 narrow_1) := by
  have h : txF_w j ∈ (List.range 19).map txF_w := List.mem_map.mpr ⟨j, List.mem_range.mpr hj, rfl⟩
  rw [← txe_w] at h
  exact List.mem_of_mem_drop (List.mem_of_mem_take h)
set_option maxRecDepth 100000 in
theorem fl_ar_f : (.arrayOf (.static "OwnedPlacesModel" "SIGN_FIRST" "[I") .int : Cond) ∈ flatC (Jvm.Cond.and given_1 narrow_1) := List.mem_of_getElem? (i := 92) (by decide +kernel)
set_option maxRecDepth 100000 in
theorem fl_le_f : (.eq (.length (.static "OwnedPlacesModel" "SIGN_FIRST" "[I")) (.int (Int32.ofNat 27)) : Cond) ∈ flatC (Jvm.Cond.and given_1 narrow_1) := List.mem_of_getElem? (i := 93) (by decide +kernel)
def txF_f (j : Nat) : Cond := .eq (.elem (.static "OwnedPlacesModel" "SIGN_FIRST" "[I") (.int (Int32.ofNat j))) (.int (sfL.getD j 0))
set_option maxRecDepth 100000 in
theorem txe_f : ((flatC (Jvm.Cond.and given_1 narrow_1)).drop 94).take 27 = (List.range 27).map txF_f := by decide +kernel
theorem txi_f (j : Nat) (hj : j < 27) : txF_f j ∈ flatC (Jvm.Cond.and given_1 narrow_1) := by
  have h : txF_f j ∈ (List.range 27).map txF_f := List.mem_map.mpr ⟨j, List.mem_range.mpr hj, rfl⟩
  rw [← txe_f] at h
  exact List.mem_of_mem_drop (List.mem_of_mem_take h)
set_option maxRecDepth 100000 in
theorem fl_ar_s : (.arrayOf (.static "OwnedPlacesModel" "SIGN_SECOND" "[I") .int : Cond) ∈ flatC (Jvm.Cond.and given_1 narrow_1) := List.mem_of_getElem? (i := 62) (by decide +kernel)
set_option maxRecDepth 100000 in
theorem fl_le_s : (.eq (.length (.static "OwnedPlacesModel" "SIGN_SECOND" "[I")) (.int (Int32.ofNat 27)) : Cond) ∈ flatC (Jvm.Cond.and given_1 narrow_1) := List.mem_of_getElem? (i := 63) (by decide +kernel)
def txF_s (j : Nat) : Cond := .eq (.elem (.static "OwnedPlacesModel" "SIGN_SECOND" "[I") (.int (Int32.ofNat j))) (.int (ssL.getD j 0))
set_option maxRecDepth 100000 in
theorem txe_s : ((flatC (Jvm.Cond.and given_1 narrow_1)).drop 64).take 27 = (List.range 27).map txF_s := by decide +kernel
theorem txi_s (j : Nat) (hj : j < 27) : txF_s j ∈ flatC (Jvm.Cond.and given_1 narrow_1) := by
  have h : txF_s j ∈ (List.range 27).map txF_s := List.mem_map.mpr ⟨j, List.mem_range.mpr hj, rfl⟩
  rw [← txe_s] at h
  exact List.mem_of_mem_drop (List.mem_of_mem_take h)
set_option maxRecDepth 100000 in
theorem fl_ar_k : (.arrayOf (.static "OwnedPlacesModel" "SIGN_KIND" "[I") .int : Cond) ∈ flatC (Jvm.Cond.and given_1 narrow_1) := List.mem_of_getElem? (i := 32) (by decide +kernel)
set_option maxRecDepth 100000 in
theorem fl_le_k : (.eq (.length (.static "OwnedPlacesModel" "SIGN_KIND" "[I")) (.int (Int32.ofNat 27)) : Cond) ∈ flatC (Jvm.Cond.and given_1 narrow_1) := List.mem_of_getElem? (i := 33) (by decide +kernel)
def txF_k (j : Nat) : Cond := .eq (.elem (.static "OwnedPlacesModel" "SIGN_KIND" "[I") (.int (Int32.ofNat j))) (.int (skL.getD j 0))
set_option maxRecDepth 100000 in
theorem txe_k : ((flatC (Jvm.Cond.and given_1 narrow_1)).drop 34).take 27 = (List.range 27).map txF_k := by decide +kernel
theorem txi_k (j : Nat) (hj : j < 27) : txF_k j ∈ flatC (Jvm.Cond.and given_1 narrow_1) := by
  have h : txF_k j ∈ (List.range 27).map txF_k := List.mem_map.mpr ⟨j, List.mem_range.mpr hj, rfl⟩
  rw [← txe_k] at h
  exact List.mem_of_mem_drop (List.mem_of_mem_take h)
theorem tx_b8 : ∀ j : Nat, j < 100 → ∃ k : Nat, k < 128 ∧ (fun j => txB_a.getD j 0) j = nI k := fun j hj => by
  have h : ∀ j : Fin 100, ∃ k : Fin 128, txB_a.getD j.val 0 = nI k.val := by decide +kernel
  obtain ⟨k, e⟩ := h ⟨j, hj⟩
  exact ⟨k.val, k.isLt, e⟩
theorem tx_sp : spB (fun j => txB_a.getD j 0) 100 = 20 := by decide +kernel
end LW8
