section
-- ===== PART A: goes FIRST, ahead of the names: the tables' words, and 'selects' of the private methods out of them =====
/-- a private method of a class that the tables say can be made, by its rows of tables_1 -/
def lw_okq (q : MethodName × Nat) : Prop := (q.1.cls ≠ "java/lang/invoke/MethodHandle" ∧ q.1.cls ≠ "java/lang/invoke/VarHandle") ∧ Cond.instantiable q.1.cls q.2 ∈ tables_1 ∧ Cond.privateMethod q.1 ∈ tables_1 ∧ Cond.instanceMethod q.1 ∈ tables_1
theorem lw_p0 : lw_okq (⟨"OwnedPlaces$Text", "nameOf", "([BII)I"⟩, 18) := ⟨⟨by decide +kernel, by decide +kernel⟩, List.mem_of_getElem? (i := 41) (by decide +kernel), List.mem_of_getElem? (i := 99) (by decide +kernel), List.mem_of_getElem? (i := 100) (by decide +kernel)⟩
theorem lw_p1 : lw_okq (⟨"OwnedPlaces$Text", "isSpelled", "(I[BII)Z"⟩, 18) := ⟨⟨by decide +kernel, by decide +kernel⟩, List.mem_of_getElem? (i := 41) (by decide +kernel), List.mem_of_getElem? (i := 103) (by decide +kernel), List.mem_of_getElem? (i := 104) (by decide +kernel)⟩
theorem lw_p2 : lw_okq (⟨"OwnedPlaces$Text", "addName", "(I[BII)I"⟩, 18) := ⟨⟨by decide +kernel, by decide +kernel⟩, List.mem_of_getElem? (i := 41) (by decide +kernel), List.mem_of_getElem? (i := 107) (by decide +kernel), List.mem_of_getElem? (i := 108) (by decide +kernel)⟩
theorem lw_p3 : lw_okq (⟨"OwnedPlaces", "lookOver", "(I)V"⟩, 14) := ⟨⟨by decide +kernel, by decide +kernel⟩, List.mem_of_getElem? (i := 33) (by decide +kernel), List.mem_of_getElem? (i := 898) (by decide +kernel), List.mem_of_getElem? (i := 899) (by decide +kernel)⟩
theorem lw_p7 : lw_okq (⟨"OwnedPlaces$Text", "add", "(III)V"⟩, 18) := ⟨⟨by decide +kernel, by decide +kernel⟩, List.mem_of_getElem? (i := 41) (by decide +kernel), List.mem_of_getElem? (i := 918) (by decide +kernel), List.mem_of_getElem? (i := 919) (by decide +kernel)⟩
theorem lw_p42 : lw_okq (⟨"OwnedPlaces$Types", "make", "(II)I"⟩, 16) := ⟨⟨by decide +kernel, by decide +kernel⟩, List.mem_of_getElem? (i := 227) (by decide +kernel), List.mem_of_getElem? (i := 1114) (by decide +kernel), List.mem_of_getElem? (i := 1115) (by decide +kernel)⟩
theorem lw_p56 : lw_okq (⟨"OwnedPlaces$Declarations", "checkSizes", "()V"⟩, 8) := ⟨⟨by decide +kernel, by decide +kernel⟩, List.mem_of_getElem? (i := 303) (by decide +kernel), List.mem_of_getElem? (i := 1238) (by decide +kernel), List.mem_of_getElem? (i := 1239) (by decide +kernel)⟩
theorem lw_p57 : lw_okq (⟨"OwnedPlaces$Declarations", "checkMain", "()V"⟩, 8) := ⟨⟨by decide +kernel, by decide +kernel⟩, List.mem_of_getElem? (i := 303) (by decide +kernel), List.mem_of_getElem? (i := 1242) (by decide +kernel), List.mem_of_getElem? (i := 1243) (by decide +kernel)⟩
theorem lw_p148 : lw_okq (⟨"OwnedPlacesModel", "feedWord", "(I)V"⟩, 89) := ⟨⟨by decide +kernel, by decide +kernel⟩, List.mem_of_getElem? (i := 1822) (by decide +kernel), List.mem_of_getElem? (i := 2115) (by decide +kernel), List.mem_of_getElem? (i := 2116) (by decide +kernel)⟩
theorem lw_p149 : lw_okq (⟨"OwnedPlacesModel", "scan", "()V"⟩, 89) := ⟨⟨by decide +kernel, by decide +kernel⟩, List.mem_of_getElem? (i := 1822) (by decide +kernel), List.mem_of_getElem? (i := 2127) (by decide +kernel), List.mem_of_getElem? (i := 2128) (by decide +kernel)⟩
theorem lw_p150 : lw_okq (⟨"OwnedPlacesModel", "behindBlanks", "(I)I"⟩, 89) := ⟨⟨by decide +kernel, by decide +kernel⟩, List.mem_of_getElem? (i := 1822) (by decide +kernel), List.mem_of_getElem? (i := 2131) (by decide +kernel), List.mem_of_getElem? (i := 2132) (by decide +kernel)⟩
theorem lw_p151 : lw_okq (⟨"OwnedPlacesModel", "at", "(I)I"⟩, 89) := ⟨⟨by decide +kernel, by decide +kernel⟩, List.mem_of_getElem? (i := 1822) (by decide +kernel), List.mem_of_getElem? (i := 2135) (by decide +kernel), List.mem_of_getElem? (i := 2136) (by decide +kernel)⟩
theorem lw_p154 : lw_okq (⟨"OwnedPlacesModel", "addToken", "(IIIJ)V"⟩, 89) := ⟨⟨by decide +kernel, by decide +kernel⟩, List.mem_of_getElem? (i := 1822) (by decide +kernel), List.mem_of_getElem? (i := 2159) (by decide +kernel), List.mem_of_getElem? (i := 2160) (by decide +kernel)⟩
theorem lw_p157 : lw_okq (⟨"OwnedPlacesModel", "program", "()V"⟩, 89) := ⟨⟨by decide +kernel, by decide +kernel⟩, List.mem_of_getElem? (i := 1822) (by decide +kernel), List.mem_of_getElem? (i := 2179) (by decide +kernel), List.mem_of_getElem? (i := 2180) (by decide +kernel)⟩
theorem lw_p158 : lw_okq (⟨"OwnedPlacesModel", "ok", "()Z"⟩, 89) := ⟨⟨by decide +kernel, by decide +kernel⟩, List.mem_of_getElem? (i := 1822) (by decide +kernel), List.mem_of_getElem? (i := 2183) (by decide +kernel), List.mem_of_getElem? (i := 2184) (by decide +kernel)⟩
theorem lw_p159 : lw_okq (⟨"OwnedPlacesModel", "is", "(I)Z"⟩, 89) := ⟨⟨by decide +kernel, by decide +kernel⟩, List.mem_of_getElem? (i := 1822) (by decide +kernel), List.mem_of_getElem? (i := 2187) (by decide +kernel), List.mem_of_getElem? (i := 2188) (by decide +kernel)⟩
theorem lw_p160 : lw_okq (⟨"OwnedPlacesModel", "fail", "(II)V"⟩, 89) := ⟨⟨by decide +kernel, by decide +kernel⟩, List.mem_of_getElem? (i := 1822) (by decide +kernel), List.mem_of_getElem? (i := 2191) (by decide +kernel), List.mem_of_getElem? (i := 2192) (by decide +kernel)⟩
theorem lw_p190 : lw_okq (⟨"OwnedPlacesModel", "typeAll", "()V"⟩, 89) := ⟨⟨by decide +kernel, by decide +kernel⟩, List.mem_of_getElem? (i := 1822) (by decide +kernel), List.mem_of_getElem? (i := 2586) (by decide +kernel), List.mem_of_getElem? (i := 2587) (by decide +kernel)⟩
theorem lw_p191 : lw_okq (⟨"OwnedPlacesModel", "itemNames", "()V"⟩, 89) := ⟨⟨by decide +kernel, by decide +kernel⟩, List.mem_of_getElem? (i := 1822) (by decide +kernel), List.mem_of_getElem? (i := 2590) (by decide +kernel), List.mem_of_getElem? (i := 2591) (by decide +kernel)⟩
theorem lw_p200 : lw_okq (⟨"OwnedPlacesModel", "sizes", "()V"⟩, 89) := ⟨⟨by decide +kernel, by decide +kernel⟩, List.mem_of_getElem? (i := 1822) (by decide +kernel), List.mem_of_getElem? (i := 2644) (by decide +kernel), List.mem_of_getElem? (i := 2645) (by decide +kernel)⟩
theorem lw_p205 : lw_okq (⟨"OwnedPlacesModel", "leaves", "()V"⟩, 89) := ⟨⟨by decide +kernel, by decide +kernel⟩, List.mem_of_getElem? (i := 1822) (by decide +kernel), List.mem_of_getElem? (i := 2667) (by decide +kernel), List.mem_of_getElem? (i := 2668) (by decide +kernel)⟩
theorem lw_p207 : lw_okq (⟨"OwnedPlacesModel", "findMain", "()V"⟩, 89) := ⟨⟨by decide +kernel, by decide +kernel⟩, List.mem_of_getElem? (i := 1822) (by decide +kernel), List.mem_of_getElem? (i := 2675) (by decide +kernel), List.mem_of_getElem? (i := 2676) (by decide +kernel)⟩
def lw_privs : List (MethodName × Nat) := [(⟨"OwnedPlaces$Text", "nameOf", "([BII)I"⟩, 18), (⟨"OwnedPlaces$Text", "isSpelled", "(I[BII)Z"⟩, 18), (⟨"OwnedPlaces$Text", "addName", "(I[BII)I"⟩, 18), (⟨"OwnedPlaces", "lookOver", "(I)V"⟩, 14), (⟨"OwnedPlaces$Text", "add", "(III)V"⟩, 18), (⟨"OwnedPlaces$Types", "make", "(II)I"⟩, 16), (⟨"OwnedPlaces$Declarations", "checkSizes", "()V"⟩, 8), (⟨"OwnedPlaces$Declarations", "checkMain", "()V"⟩, 8), (⟨"OwnedPlacesModel", "feedWord", "(I)V"⟩, 89), (⟨"OwnedPlacesModel", "scan", "()V"⟩, 89), (⟨"OwnedPlacesModel", "behindBlanks", "(I)I"⟩, 89), (⟨"OwnedPlacesModel", "at", "(I)I"⟩, 89), (⟨"OwnedPlacesModel", "addToken", "(IIIJ)V"⟩, 89), (⟨"OwnedPlacesModel", "program", "()V"⟩, 89), (⟨"OwnedPlacesModel", "ok", "()Z"⟩, 89), (⟨"OwnedPlacesModel", "is", "(I)Z"⟩, 89), (⟨"OwnedPlacesModel", "fail", "(II)V"⟩, 89), (⟨"OwnedPlacesModel", "typeAll", "()V"⟩, 89), (⟨"OwnedPlacesModel", "itemNames", "()V"⟩, 89), (⟨"OwnedPlacesModel", "sizes", "()V"⟩, 89), (⟨"OwnedPlacesModel", "leaves", "()V"⟩, 89), (⟨"OwnedPlacesModel", "findMain", "()V"⟩, 89)]
def lw_tbl : List Cond := k2_sels lw_privs ++ tables_1
theorem lw_privs_ok : ∀ q ∈ lw_privs, lw_okq q := List.forall_mem_cons.mpr ⟨lw_p0, List.forall_mem_cons.mpr ⟨lw_p1, List.forall_mem_cons.mpr ⟨lw_p2, List.forall_mem_cons.mpr ⟨lw_p3, List.forall_mem_cons.mpr ⟨lw_p7, List.forall_mem_cons.mpr ⟨lw_p42, List.forall_mem_cons.mpr ⟨lw_p56, List.forall_mem_cons.mpr ⟨lw_p57, List.forall_mem_cons.mpr ⟨lw_p148, List.forall_mem_cons.mpr ⟨lw_p149, List.forall_mem_cons.mpr ⟨lw_p150, List.forall_mem_cons.mpr ⟨lw_p151, List.forall_mem_cons.mpr ⟨lw_p154, List.forall_mem_cons.mpr ⟨lw_p157, List.forall_mem_cons.mpr ⟨lw_p158, List.forall_mem_cons.mpr ⟨lw_p159, List.forall_mem_cons.mpr ⟨lw_p160, List.forall_mem_cons.mpr ⟨lw_p190, List.forall_mem_cons.mpr ⟨lw_p191, List.forall_mem_cons.mpr ⟨lw_p200, List.forall_mem_cons.mpr ⟨lw_p205, List.forall_mem_cons.mpr ⟨lw_p207, fun _ h => absurd h List.not_mem_nil⟩⟩⟩⟩⟩⟩⟩⟩⟩⟩⟩⟩⟩⟩⟩⟩⟩⟩⟩⟩⟩⟩
end
section
theorem goodIn_r {big : List Cond} (ws : List Cond) (ps : List Nat) (hp : ws = ps.filterMap (fun i => big[i]?)) (h : ws.all goodWord = true) : GoodIn big ws := by
  intro w hw
  have h1 := List.all_eq_true.mp h w hw
  rw [hp] at hw
  obtain ⟨i, -, hi⟩ := List.mem_filterMap.mp hw
  have hm : w ∈ big := by first | exact List.mem_of_getElem? hi | exact List.getElem?_mem hi
  exact ⟨hm, good_of_word h1⟩
theorem goodIn_app {big a b : List Cond} (ha : GoodIn big a) (hb : GoodIn big b) : GoodIn big (a ++ b) := fun w h => (List.mem_append.mp h).elim (ha w) (hb w)
theorem goodIn_sub {big ws : List Cond} (hm : ∀ w ∈ ws, w ∈ big) (h : ws.all goodWord = true) : GoodIn big ws := fun w hw => ⟨hm w hw, good_of_word (List.all_eq_true.mp h w hw)⟩
theorem goodIn_f {big : List Cond} (ws : List Cond) (ps : List Nat) (hp : ws = ps.filterMap (fun i => big[i]?)) (h : ws.all goodWord = true) : GoodIn big ws := goodIn_r ws ps hp h
theorem goodIn_n {big : List Cond} : GoodIn big [] := fun _ h => absurd h List.not_mem_nil
theorem W_q {p : Program} {l : Launch} {e : Env} {R : Room} {s : State} {m : MethodId} {args : Array Value} {below : List Frame} {meth : Method} {c : Code} {H : Heap} {locs : List Loc} {cells slots : Nat} {Q : State → Prop} {g : JFrame} (k : ∀ Q0 : State → Prop, Q0 = Q → W p l e R s m args below meth c H locs cells slots Q0 g) : W p l e R s m args below meth c H locs cells slots Q g := k Q rfl
theorem kEq_int {D : va_G} {cl : List vw_C} {tys : List (ClassId × FieldType)} {U : State} (hK : va_K D cl tys U) (i j : Nat) {a b : ClassId} (hi : tys[i]? = some (a, .int)) (hj : tys[j]? = some (b, .int)) : a = b := Option.some.inj ((hK.2 i _ hi).2.symm.trans (hK.2 j _ hj).2)
theorem kEq_byte {D : va_G} {cl : List vw_C} {tys : List (ClassId × FieldType)} {U : State} (hK : va_K D cl tys U) (i j : Nat) {a b : ClassId} (hi : tys[i]? = some (a, .byte)) (hj : tys[j]? = some (b, .byte)) : a = b := Option.some.inj ((hK.2 i _ hi).2.symm.trans (hK.2 j _ hj).2)
theorem kEq_boolean {D : va_G} {cl : List vw_C} {tys : List (ClassId × FieldType)} {U : State} (hK : va_K D cl tys U) (i j : Nat) {a b : ClassId} (hi : tys[i]? = some (a, .boolean)) (hj : tys[j]? = some (b, .boolean)) : a = b := Option.some.inj ((hK.2 i _ hi).2.symm.trans (hK.2 j _ hj).2)
theorem kEq_long {D : va_G} {cl : List vw_C} {tys : List (ClassId × FieldType)} {U : State} (hK : va_K D cl tys U) (i j : Nat) {a b : ClassId} (hi : tys[i]? = some (a, .long)) (hj : tys[j]? = some (b, .long)) : a = b := Option.some.inj ((hK.2 i _ hi).2.symm.trans (hK.2 j _ hj).2)
def RX0 : String := "OwnedPlaces$Code"
def RX1 : String := "OwnedPlaces$Declarations"
def RX2 : String := "OwnedPlaces$Function"
def RX3 : String := "OwnedPlaces$Grammar"
def RX4 : String := "OwnedPlaces$Loans"
def RX5 : String := "OwnedPlaces$Machine"
def RX6 : String := "OwnedPlaces$Memory"
def RX7 : String := "OwnedPlaces$Moves"
def RX8 : String := "OwnedPlaces$Queue"
def RX9 : String := "OwnedPlaces$Text"
def RX10 : String := "OwnedPlaces$Types"
def RX11 : String := "OwnedPlaces$Typing"
def RX12 : String := "OwnedPlaces"
def RX13 : String := "OwnedPlacesModel$Arm"
def RX14 : String := "OwnedPlacesModel$Block"
def RX15 : String := "OwnedPlacesModel$Exp"
def RX16 : String := "OwnedPlacesModel$Item"
def RX17 : String := "OwnedPlacesModel$Parts"
def RX18 : String := "OwnedPlacesModel$Path"
def RX19 : String := "OwnedPlacesModel$Statement"
def RX20 : String := "OwnedPlacesModel$Type"
def RX21 : String := "OwnedPlacesModel$Variable"
def RX22 : String := "OwnedPlacesModel$Written"
def RX23 : String := "OwnedPlacesModel"
def RJx8e188 : String := "java/lang/Cloneable"
def RJ9 : String := "java/lang/Math"
def RJ0 : String := "java/lang/String"
def RJ1 : String := "java/lang/StringLatin1"
def RJ2 : String := "java/lang/StringUTF16"
def RJ10 : String := "java/lang/System"
def RJ7 : String := "java/util/Arrays"
def RJ3 : String := "jdk/internal/util/Preconditions"
def RL : String := "OwnedPlacesLaw"
def TX0 : u_T := fun k => match k with
  | 0 => ("OwnedPlaces$Code", "op", "[I", true)
  | 1 => ("OwnedPlaces$Code", "a", "[I", true)
  | 2 => ("OwnedPlaces$Code", "b", "[I", true)
  | 3 => ("OwnedPlaces$Code", "c", "[I", true)
  | 4 => ("OwnedPlaces$Code", "where", "[I", true)
  | 5 => ("OwnedPlaces$Code", "total", "I", false)
  | 6 => ("OwnedPlaces$Code", "labelAt", "[I", true)
  | 7 => ("OwnedPlaces$Code", "labels", "I", false)
  | 8 => ("OwnedPlaces$Code", "placeVariable", "[I", true)
  | 9 => ("OwnedPlaces$Code", "placePath", "[I", true)
  | 10 => ("OwnedPlaces$Code", "placeLength", "[I", true)
  | 11 => ("OwnedPlaces$Code", "placeRoute", "[I", true)
  | 12 => ("OwnedPlaces$Code", "placeType", "[I", true)
  | 13 => ("OwnedPlaces$Code", "placeWhere", "[I", true)
  | 14 => ("OwnedPlaces$Code", "placeCells", "[I", true)
  | 15 => ("OwnedPlaces$Code", "places", "I", false)
  | 16 => ("OwnedPlaces$Code", "armLabels", "[I", true)
  | _ => ("OwnedPlaces$Code", "arms", "I", false)
def tyX0 : Nat → FieldType := fun k => match k with
  | 0 => .array .int
  | 1 => .array .int
  | 2 => .array .int
  | 3 => .array .int
  | 4 => .array .int
  | 5 => .int
  | 6 => .array .int
  | 7 => .int
  | 8 => .array .int
  | 9 => .array .int
  | 10 => .array .int
  | 11 => .array .int
  | 12 => .array .int
  | 13 => .array .int
  | 14 => .array .int
  | 15 => .int
  | 16 => .array .int
  | _ => .int
abbrev wsX00 : List Cond := u_ws RX0 TX0 18
theorem nmX0 : ∀ a, a < 18 → ∀ b, b < 18 → a ≠ b → (TX0 a).2.1 ≠ (TX0 b).2.1 := by decide +kernel
theorem tyX0_ok : ∀ k, k < 18 → parseFieldDescriptor (TX0 k).2.2.1 = some (tyX0 k) := by decide +kernel
theorem gd_X0 : wsX00.all goodWord = true := by decide +kernel
theorem dv_X0 : ∀ j, j < 18 → defaultValue (tyX0 j) = vp_V [.null, .null, .null, .null, .null, .int 0, .null, .int 0, .null, .null, .null, .null, .null, .null, .null, .int 0, .null, .int 0] j := fun j hj => match j, hj with
  | 0, _ => rfl
  | 1, _ => rfl
  | 2, _ => rfl
  | 3, _ => rfl
  | 4, _ => rfl
  | 5, _ => rfl
  | 6, _ => rfl
  | 7, _ => rfl
  | 8, _ => rfl
  | 9, _ => rfl
  | 10, _ => rfl
  | 11, _ => rfl
  | 12, _ => rfl
  | 13, _ => rfl
  | 14, _ => rfl
  | 15, _ => rfl
  | 16, _ => rfl
  | 17, _ => rfl
  | n + 18, h => absurd h (by omega)
def TX1 : u_T := fun k => match k with
  | 0 => ("OwnedPlaces$Declarations", "text", "LOwnedPlaces$Text;", true)
  | 1 => ("OwnedPlaces$Declarations", "types", "LOwnedPlaces$Types;", true)
  | 2 => ("OwnedPlaces$Declarations", "functions", "[LOwnedPlaces$Function;", true)
  | 3 => ("OwnedPlaces$Declarations", "total", "I", false)
  | 4 => ("OwnedPlaces$Declarations", "main", "I", false)
  | 5 => ("OwnedPlaces$Declarations", "meanings", "[I", true)
  | 6 => ("OwnedPlaces$Declarations", "function", "LOwnedPlaces$Function;", false)
  | _ => ("OwnedPlaces$Declarations", "life", "I", false)
def tyX1 : Nat → FieldType := fun k => match k with
  | 0 => .object "OwnedPlaces$Text"
  | 1 => .object "OwnedPlaces$Types"
  | 2 => .array (.object "OwnedPlaces$Function")
  | 3 => .int
  | 4 => .int
  | 5 => .array .int
  | 6 => .object "OwnedPlaces$Function"
  | _ => .int
abbrev wsX10 : List Cond := u_ws RX1 TX1 8
theorem nmX1 : ∀ a, a < 8 → ∀ b, b < 8 → a ≠ b → (TX1 a).2.1 ≠ (TX1 b).2.1 := by decide +kernel
theorem tyX1_ok : ∀ k, k < 8 → parseFieldDescriptor (TX1 k).2.2.1 = some (tyX1 k) := by decide +kernel
theorem gd_X1 : wsX10.all goodWord = true := by decide +kernel
theorem dv_X1 : ∀ j, j < 8 → defaultValue (tyX1 j) = vp_V [.null, .null, .null, .int 0, .int 0, .null, .null, .int 0] j := fun j hj => match j, hj with
  | 0, _ => rfl
  | 1, _ => rfl
  | 2, _ => rfl
  | 3, _ => rfl
  | 4, _ => rfl
  | 5, _ => rfl
  | 6, _ => rfl
  | 7, _ => rfl
  | n + 8, h => absurd h (by omega)
def TX2 : u_T := fun k => match k with
  | 0 => ("OwnedPlaces$Function", "token", "I", false)
  | 1 => ("OwnedPlaces$Function", "body", "I", false)
  | 2 => ("OwnedPlaces$Function", "lives", "I", false)
  | 3 => ("OwnedPlaces$Function", "lifeName", "[I", true)
  | 4 => ("OwnedPlaces$Function", "parameters", "I", false)
  | 5 => ("OwnedPlaces$Function", "parameterLife", "[I", true)
  | 6 => ("OwnedPlaces$Function", "argumentCells", "I", false)
  | 7 => ("OwnedPlaces$Function", "result", "I", false)
  | 8 => ("OwnedPlaces$Function", "resultLife", "I", false)
  | 9 => ("OwnedPlaces$Function", "variables", "I", false)
  | 10 => ("OwnedPlaces$Function", "name", "[I", true)
  | 11 => ("OwnedPlaces$Function", "type", "[I", true)
  | 12 => ("OwnedPlaces$Function", "mutable", "[Z", true)
  | 13 => ("OwnedPlaces$Function", "offset", "[I", true)
  | 14 => ("OwnedPlaces$Function", "from", "[I", true)
  | 15 => ("OwnedPlaces$Function", "to", "[I", true)
  | 16 => ("OwnedPlaces$Function", "cells", "I", false)
  | 17 => ("OwnedPlaces$Function", "codeFrom", "I", false)
  | 18 => ("OwnedPlaces$Function", "codeTo", "I", false)
  | 19 => ("OwnedPlaces$Function", "labelFrom", "I", false)
  | 20 => ("OwnedPlaces$Function", "labelTo", "I", false)
  | _ => ("OwnedPlaces$Function", "borrows", "I", false)
def tyX2 : Nat → FieldType := fun k => match k with
  | 0 => .int
  | 1 => .int
  | 2 => .int
  | 3 => .array .int
  | 4 => .int
  | 5 => .array .int
  | 6 => .int
  | 7 => .int
  | 8 => .int
  | 9 => .int
  | 10 => .array .int
  | 11 => .array .int
  | 12 => .array .boolean
  | 13 => .array .int
  | 14 => .array .int
  | 15 => .array .int
  | 16 => .int
  | 17 => .int
  | 18 => .int
  | 19 => .int
  | 20 => .int
  | _ => .int
abbrev wsX20 : List Cond := u_ws RX2 TX2 22
theorem nmX2 : ∀ a, a < 22 → ∀ b, b < 22 → a ≠ b → (TX2 a).2.1 ≠ (TX2 b).2.1 := by decide +kernel
theorem tyX2_ok : ∀ k, k < 22 → parseFieldDescriptor (TX2 k).2.2.1 = some (tyX2 k) := by decide +kernel
theorem gd_X2 : wsX20.all goodWord = true := by decide +kernel
theorem dv_X2 : ∀ j, j < 22 → defaultValue (tyX2 j) = vp_V [.int 0, .int 0, .int 0, .null, .int 0, .null, .int 0, .int 0, .int 0, .int 0, .null, .null, .null, .null, .null, .null, .int 0, .int 0, .int 0, .int 0, .int 0, .int 0] j := fun j hj => match j, hj with
  | 0, _ => rfl
  | 1, _ => rfl
  | 2, _ => rfl
  | 3, _ => rfl
  | 4, _ => rfl
  | 5, _ => rfl
  | 6, _ => rfl
  | 7, _ => rfl
  | 8, _ => rfl
  | 9, _ => rfl
  | 10, _ => rfl
  | 11, _ => rfl
  | 12, _ => rfl
  | 13, _ => rfl
  | 14, _ => rfl
  | 15, _ => rfl
  | 16, _ => rfl
  | 17, _ => rfl
  | 18, _ => rfl
  | 19, _ => rfl
  | 20, _ => rfl
  | 21, _ => rfl
  | n + 22, h => absurd h (by omega)
def TX3 : u_T := fun k => match k with
  | 0 => ("OwnedPlaces$Grammar", "text", "LOwnedPlaces$Text;", true)
  | 1 => ("OwnedPlaces$Grammar", "items", "[I", true)
  | 2 => ("OwnedPlaces$Grammar", "total", "I", false)
  | 3 => ("OwnedPlaces$Grammar", "shapes", "I", false)
  | 4 => ("OwnedPlaces$Grammar", "functions", "I", false)
  | 5 => ("OwnedPlaces$Grammar", "variables", "I", false)
  | _ => ("OwnedPlaces$Grammar", "borrows", "I", false)
def tyX3 : Nat → FieldType := fun k => match k with
  | 0 => .object "OwnedPlaces$Text"
  | 1 => .array .int
  | 2 => .int
  | 3 => .int
  | 4 => .int
  | 5 => .int
  | _ => .int
abbrev wsX30 : List Cond := u_ws RX3 TX3 7
theorem nmX3 : ∀ a, a < 7 → ∀ b, b < 7 → a ≠ b → (TX3 a).2.1 ≠ (TX3 b).2.1 := by decide +kernel
theorem tyX3_ok : ∀ k, k < 7 → parseFieldDescriptor (TX3 k).2.2.1 = some (tyX3 k) := by decide +kernel
theorem gd_X3 : wsX30.all goodWord = true := by decide +kernel
theorem dv_X3 : ∀ j, j < 7 → defaultValue (tyX3 j) = vp_V [.null, .null, .int 0, .int 0, .int 0, .int 0, .int 0] j := fun j hj => match j, hj with
  | 0, _ => rfl
  | 1, _ => rfl
  | 2, _ => rfl
  | 3, _ => rfl
  | 4, _ => rfl
  | 5, _ => rfl
  | 6, _ => rfl
  | n + 7, h => absurd h (by omega)
def TX4 : u_T := fun k => match k with
  | 0 => ("OwnedPlaces$Loans", "types", "LOwnedPlaces$Types;", true)
  | 1 => ("OwnedPlaces$Loans", "code", "LOwnedPlaces$Code;", true)
  | 2 => ("OwnedPlaces$Loans", "declared", "LOwnedPlaces$Declarations;", true)
  | 3 => ("OwnedPlaces$Loans", "function", "LOwnedPlaces$Function;", false)
  | 4 => ("OwnedPlaces$Loans", "usedBehind", "[J", true)
  | 5 => ("OwnedPlaces$Loans", "usedAt", "[J", true)
  | 6 => ("OwnedPlaces$Loans", "held", "[J", true)
  | 7 => ("OwnedPlaces$Loans", "rows", "[J", true)
  | 8 => ("OwnedPlaces$Loans", "reached", "[Z", true)
  | 9 => ("OwnedPlaces$Loans", "temps", "[J", true)
  | 10 => ("OwnedPlaces$Loans", "tempTotal", "I", false)
  | 11 => ("OwnedPlaces$Loans", "placeOf", "[I", true)
  | 12 => ("OwnedPlaces$Loans", "heldByLoan", "[J", true)
  | 13 => ("OwnedPlaces$Loans", "loansOn", "[J", true)
  | 14 => ("OwnedPlaces$Loans", "sharedLoans", "J", false)
  | 15 => ("OwnedPlaces$Loans", "isReached", "Z", false)
  | 16 => ("OwnedPlaces$Loans", "again", "Z", false)
  | _ => ("OwnedPlaces$Loans", "first", "I", false)
def tyX4 : Nat → FieldType := fun k => match k with
  | 0 => .object "OwnedPlaces$Types"
  | 1 => .object "OwnedPlaces$Code"
  | 2 => .object "OwnedPlaces$Declarations"
  | 3 => .object "OwnedPlaces$Function"
  | 4 => .array .long
  | 5 => .array .long
  | 6 => .array .long
  | 7 => .array .long
  | 8 => .array .boolean
  | 9 => .array .long
  | 10 => .int
  | 11 => .array .int
  | 12 => .array .long
  | 13 => .array .long
  | 14 => .long
  | 15 => .boolean
  | 16 => .boolean
  | _ => .int
abbrev wsX40 : List Cond := u_ws RX4 TX4 18
theorem nmX4 : ∀ a, a < 18 → ∀ b, b < 18 → a ≠ b → (TX4 a).2.1 ≠ (TX4 b).2.1 := by decide +kernel
theorem tyX4_ok : ∀ k, k < 18 → parseFieldDescriptor (TX4 k).2.2.1 = some (tyX4 k) := by decide +kernel
theorem gd_X4 : wsX40.all goodWord = true := by decide +kernel
theorem dv_X4 : ∀ j, j < 18 → defaultValue (tyX4 j) = vp_V [.null, .null, .null, .null, .null, .null, .null, .null, .null, .null, .int 0, .null, .null, .null, .long 0, .int 0, .int 0, .int 0] j := fun j hj => match j, hj with
  | 0, _ => rfl
  | 1, _ => rfl
  | 2, _ => rfl
  | 3, _ => rfl
  | 4, _ => rfl
  | 5, _ => rfl
  | 6, _ => rfl
  | 7, _ => rfl
  | 8, _ => rfl
  | 9, _ => rfl
  | 10, _ => rfl
  | 11, _ => rfl
  | 12, _ => rfl
  | 13, _ => rfl
  | 14, _ => rfl
  | 15, _ => rfl
  | 16, _ => rfl
  | 17, _ => rfl
  | n + 18, h => absurd h (by omega)
def TX5 : u_T := fun k => match k with
  | 0 => ("OwnedPlaces$Machine", "code", "LOwnedPlaces$Code;", true)
  | 1 => ("OwnedPlaces$Machine", "types", "LOwnedPlaces$Types;", true)
  | 2 => ("OwnedPlaces$Machine", "declared", "LOwnedPlaces$Declarations;", true)
  | 3 => ("OwnedPlaces$Machine", "memory", "LOwnedPlaces$Memory;", true)
  | 4 => ("OwnedPlaces$Machine", "numbers", "LOwnedPlaces$Queue;", true)
  | 5 => ("OwnedPlaces$Machine", "waiting", "LOwnedPlaces$Queue;", true)
  | 6 => ("OwnedPlaces$Machine", "fuel", "I", false)
  | 7 => ("OwnedPlaces$Machine", "fault", "I", false)
  | 8 => ("OwnedPlaces$Machine", "isRunning", "Z", false)
  | 9 => ("OwnedPlaces$Machine", "next", "I", false)
  | 10 => ("OwnedPlaces$Machine", "base", "I", false)
  | 11 => ("OwnedPlaces$Machine", "top", "I", false)
  | 12 => ("OwnedPlaces$Machine", "calls", "I", false)
  | 13 => ("OwnedPlaces$Machine", "function", "LOwnedPlaces$Function;", false)
  | 14 => ("OwnedPlaces$Machine", "callers", "[LOwnedPlaces$Function;", true)
  | 15 => ("OwnedPlaces$Machine", "callerNext", "[I", true)
  | 16 => ("OwnedPlaces$Machine", "callerBase", "[I", true)
  | 17 => ("OwnedPlaces$Machine", "filled", "[I", true)
  | _ => ("OwnedPlaces$Machine", "filledBase", "I", false)
def tyX5 : Nat → FieldType := fun k => match k with
  | 0 => .object "OwnedPlaces$Code"
  | 1 => .object "OwnedPlaces$Types"
  | 2 => .object "OwnedPlaces$Declarations"
  | 3 => .object "OwnedPlaces$Memory"
  | 4 => .object "OwnedPlaces$Queue"
  | 5 => .object "OwnedPlaces$Queue"
  | 6 => .int
  | 7 => .int
  | 8 => .boolean
  | 9 => .int
  | 10 => .int
  | 11 => .int
  | 12 => .int
  | 13 => .object "OwnedPlaces$Function"
  | 14 => .array (.object "OwnedPlaces$Function")
  | 15 => .array .int
  | 16 => .array .int
  | 17 => .array .int
  | _ => .int
abbrev wsX50 : List Cond := u_ws RX5 TX5 19
theorem nmX5 : ∀ a, a < 19 → ∀ b, b < 19 → a ≠ b → (TX5 a).2.1 ≠ (TX5 b).2.1 := by decide +kernel
theorem tyX5_ok : ∀ k, k < 19 → parseFieldDescriptor (TX5 k).2.2.1 = some (tyX5 k) := by decide +kernel
theorem gd_X5 : wsX50.all goodWord = true := by decide +kernel
theorem dv_X5 : ∀ j, j < 19 → defaultValue (tyX5 j) = vp_V [.null, .null, .null, .null, .null, .null, .int 0, .int 0, .int 0, .int 0, .int 0, .int 0, .int 0, .null, .null, .null, .null, .null, .int 0] j := fun j hj => match j, hj with
  | 0, _ => rfl
  | 1, _ => rfl
  | 2, _ => rfl
  | 3, _ => rfl
  | 4, _ => rfl
  | 5, _ => rfl
  | 6, _ => rfl
  | 7, _ => rfl
  | 8, _ => rfl
  | 9, _ => rfl
  | 10, _ => rfl
  | 11, _ => rfl
  | 12, _ => rfl
  | 13, _ => rfl
  | 14, _ => rfl
  | 15, _ => rfl
  | 16, _ => rfl
  | 17, _ => rfl
  | 18, _ => rfl
  | n + 19, h => absurd h (by omega)
def TX6 : u_T := fun k => match k with
  | 0 => ("OwnedPlaces$Memory", "types", "LOwnedPlaces$Types;", true)
  | 1 => ("OwnedPlaces$Memory", "waiting", "LOwnedPlaces$Queue;", true)
  | 2 => ("OwnedPlaces$Memory", "heap", "I", true)
  | 3 => ("OwnedPlaces$Memory", "cells", "[J", false)
  | 4 => ("OwnedPlaces$Memory", "taken", "[B", true)
  | 5 => ("OwnedPlaces$Memory", "lowest", "I", false)
  | 6 => ("OwnedPlaces$Memory", "inUse", "I", false)
  | 7 => ("OwnedPlaces$Memory", "mostInUse", "I", false)
  | 8 => ("OwnedPlaces$Memory", "dropType", "[I", true)
  | 9 => ("OwnedPlaces$Memory", "dropAt", "[I", true)
  | 10 => ("OwnedPlaces$Memory", "dropCells", "[I", true)
  | _ => ("OwnedPlaces$Memory", "dropTotal", "I", false)
def tyX6 : Nat → FieldType := fun k => match k with
  | 0 => .object "OwnedPlaces$Types"
  | 1 => .object "OwnedPlaces$Queue"
  | 2 => .int
  | 3 => .array .long
  | 4 => .array .byte
  | 5 => .int
  | 6 => .int
  | 7 => .int
  | 8 => .array .int
  | 9 => .array .int
  | 10 => .array .int
  | _ => .int
abbrev wsX60 : List Cond := u_ws RX6 TX6 12
theorem nmX6 : ∀ a, a < 12 → ∀ b, b < 12 → a ≠ b → (TX6 a).2.1 ≠ (TX6 b).2.1 := by decide +kernel
theorem tyX6_ok : ∀ k, k < 12 → parseFieldDescriptor (TX6 k).2.2.1 = some (tyX6 k) := by decide +kernel
theorem gd_X6 : wsX60.all goodWord = true := by decide +kernel
theorem dv_X6 : ∀ j, j < 12 → defaultValue (tyX6 j) = vp_V [.null, .null, .int 0, .null, .null, .int 0, .int 0, .int 0, .null, .null, .null, .int 0] j := fun j hj => match j, hj with
  | 0, _ => rfl
  | 1, _ => rfl
  | 2, _ => rfl
  | 3, _ => rfl
  | 4, _ => rfl
  | 5, _ => rfl
  | 6, _ => rfl
  | 7, _ => rfl
  | 8, _ => rfl
  | 9, _ => rfl
  | 10, _ => rfl
  | 11, _ => rfl
  | n + 12, h => absurd h (by omega)
def TX7 : u_T := fun k => match k with
  | 0 => ("OwnedPlaces$Moves", "types", "LOwnedPlaces$Types;", true)
  | 1 => ("OwnedPlaces$Moves", "code", "LOwnedPlaces$Code;", true)
  | 2 => ("OwnedPlaces$Moves", "function", "LOwnedPlaces$Function;", false)
  | 3 => ("OwnedPlaces$Moves", "state", "[I", true)
  | 4 => ("OwnedPlaces$Moves", "rows", "[I", true)
  | 5 => ("OwnedPlaces$Moves", "reached", "[Z", true)
  | 6 => ("OwnedPlaces$Moves", "isReached", "Z", false)
  | 7 => ("OwnedPlaces$Moves", "again", "Z", false)
  | _ => ("OwnedPlaces$Moves", "first", "I", false)
def tyX7 : Nat → FieldType := fun k => match k with
  | 0 => .object "OwnedPlaces$Types"
  | 1 => .object "OwnedPlaces$Code"
  | 2 => .object "OwnedPlaces$Function"
  | 3 => .array .int
  | 4 => .array .int
  | 5 => .array .boolean
  | 6 => .boolean
  | 7 => .boolean
  | _ => .int
abbrev wsX70 : List Cond := u_ws RX7 TX7 9
theorem nmX7 : ∀ a, a < 9 → ∀ b, b < 9 → a ≠ b → (TX7 a).2.1 ≠ (TX7 b).2.1 := by decide +kernel
theorem tyX7_ok : ∀ k, k < 9 → parseFieldDescriptor (TX7 k).2.2.1 = some (tyX7 k) := by decide +kernel
theorem gd_X7 : wsX70.all goodWord = true := by decide +kernel
theorem dv_X7 : ∀ j, j < 9 → defaultValue (tyX7 j) = vp_V [.null, .null, .null, .null, .null, .null, .int 0, .int 0, .int 0] j := fun j hj => match j, hj with
  | 0, _ => rfl
  | 1, _ => rfl
  | 2, _ => rfl
  | 3, _ => rfl
  | 4, _ => rfl
  | 5, _ => rfl
  | 6, _ => rfl
  | 7, _ => rfl
  | 8, _ => rfl
  | n + 9, h => absurd h (by omega)
def TX8 : u_T := fun k => match k with
  | 0 => ("OwnedPlaces$Queue", "row", "[J", true)
  | 1 => ("OwnedPlaces$Queue", "digits", "[B", true)
  | 2 => ("OwnedPlaces$Queue", "first", "I", false)
  | _ => ("OwnedPlaces$Queue", "size", "I", false)
def tyX8 : Nat → FieldType := fun k => match k with
  | 0 => .array .long
  | 1 => .array .byte
  | 2 => .int
  | _ => .int
abbrev wsX80 : List Cond := u_ws RX8 TX8 4
theorem nmX8 : ∀ a, a < 4 → ∀ b, b < 4 → a ≠ b → (TX8 a).2.1 ≠ (TX8 b).2.1 := by decide +kernel
theorem tyX8_ok : ∀ k, k < 4 → parseFieldDescriptor (TX8 k).2.2.1 = some (tyX8 k) := by decide +kernel
theorem gd_X8 : wsX80.all goodWord = true := by decide +kernel
theorem dv_X8 : ∀ j, j < 4 → defaultValue (tyX8 j) = vp_V [.null, .null, .int 0, .int 0] j := fun j hj => match j, hj with
  | 0, _ => rfl
  | 1, _ => rfl
  | 2, _ => rfl
  | 3, _ => rfl
  | n + 4, h => absurd h (by omega)
def TX9 : u_T := fun k => match k with
  | 0 => ("OwnedPlaces$Text", "kinds", "[I", true)
  | 1 => ("OwnedPlaces$Text", "places", "[I", true)
  | 2 => ("OwnedPlaces$Text", "names", "[I", true)
  | 3 => ("OwnedPlaces$Text", "numbers", "[J", true)
  | 4 => ("OwnedPlaces$Text", "links", "[I", true)
  | 5 => ("OwnedPlaces$Text", "length", "I", false)
  | 6 => ("OwnedPlaces$Text", "now", "I", false)
  | 7 => ("OwnedPlaces$Text", "fault", "I", false)
  | 8 => ("OwnedPlaces$Text", "place", "I", false)
  | 9 => ("OwnedPlaces$Text", "nameTotal", "I", false)
  | 10 => ("OwnedPlaces$Text", "bytes", "[B", true)
  | 11 => ("OwnedPlaces$Text", "total", "I", false)
  | 12 => ("OwnedPlaces$Text", "spelled", "[B", true)
  | 13 => ("OwnedPlaces$Text", "nameFrom", "[I", true)
  | 14 => ("OwnedPlaces$Text", "nameSize", "[I", true)
  | 15 => ("OwnedPlaces$Text", "nameNext", "[I", true)
  | 16 => ("OwnedPlaces$Text", "heads", "[I", true)
  | _ => ("OwnedPlaces$Text", "wordHeads", "[I", true)
def tyX9 : Nat → FieldType := fun k => match k with
  | 0 => .array .int
  | 1 => .array .int
  | 2 => .array .int
  | 3 => .array .long
  | 4 => .array .int
  | 5 => .int
  | 6 => .int
  | 7 => .int
  | 8 => .int
  | 9 => .int
  | 10 => .array .byte
  | 11 => .int
  | 12 => .array .byte
  | 13 => .array .int
  | 14 => .array .int
  | 15 => .array .int
  | 16 => .array .int
  | _ => .array .int
abbrev wsX90 : List Cond := u_ws RX9 TX9 18
theorem nmX9 : ∀ a, a < 18 → ∀ b, b < 18 → a ≠ b → (TX9 a).2.1 ≠ (TX9 b).2.1 := by decide +kernel
theorem tyX9_ok : ∀ k, k < 18 → parseFieldDescriptor (TX9 k).2.2.1 = some (tyX9 k) := by decide +kernel
theorem gd_X9 : wsX90.all goodWord = true := by decide +kernel
theorem dv_X9 : ∀ j, j < 18 → defaultValue (tyX9 j) = vp_V [.null, .null, .null, .null, .null, .int 0, .int 0, .int 0, .int 0, .int 0, .null, .int 0, .null, .null, .null, .null, .null, .null] j := fun j hj => match j, hj with
  | 0, _ => rfl
  | 1, _ => rfl
  | 2, _ => rfl
  | 3, _ => rfl
  | 4, _ => rfl
  | 5, _ => rfl
  | 6, _ => rfl
  | 7, _ => rfl
  | 8, _ => rfl
  | 9, _ => rfl
  | 10, _ => rfl
  | 11, _ => rfl
  | 12, _ => rfl
  | 13, _ => rfl
  | 14, _ => rfl
  | 15, _ => rfl
  | 16, _ => rfl
  | 17, _ => rfl
  | n + 18, h => absurd h (by omega)
def TX10 : u_T := fun k => match k with
  | 0 => ("OwnedPlaces$Types", "kind", "[I", true)
  | 1 => ("OwnedPlaces$Types", "of", "[I", true)
  | 2 => ("OwnedPlaces$Types", "size", "[I", true)
  | 3 => ("OwnedPlaces$Types", "drops", "[Z", true)
  | 4 => ("OwnedPlaces$Types", "boxes", "[I", true)
  | 5 => ("OwnedPlaces$Types", "shared", "[I", true)
  | 6 => ("OwnedPlaces$Types", "unique", "[I", true)
  | 7 => ("OwnedPlaces$Types", "total", "I", false)
  | 8 => ("OwnedPlaces$Types", "shapes", "I", false)
  | 9 => ("OwnedPlaces$Types", "shapeToken", "[I", true)
  | 10 => ("OwnedPlaces$Types", "variants", "[I", true)
  | 11 => ("OwnedPlaces$Types", "variantName", "[I", true)
  | 12 => ("OwnedPlaces$Types", "parts", "[I", true)
  | 13 => ("OwnedPlaces$Types", "partName", "[I", true)
  | 14 => ("OwnedPlaces$Types", "partType", "[I", true)
  | _ => ("OwnedPlaces$Types", "partOffset", "[I", true)
def tyX10 : Nat → FieldType := fun k => match k with
  | 0 => .array .int
  | 1 => .array .int
  | 2 => .array .int
  | 3 => .array .boolean
  | 4 => .array .int
  | 5 => .array .int
  | 6 => .array .int
  | 7 => .int
  | 8 => .int
  | 9 => .array .int
  | 10 => .array .int
  | 11 => .array .int
  | 12 => .array .int
  | 13 => .array .int
  | 14 => .array .int
  | _ => .array .int
abbrev wsX100 : List Cond := u_ws RX10 TX10 16
theorem nmX10 : ∀ a, a < 16 → ∀ b, b < 16 → a ≠ b → (TX10 a).2.1 ≠ (TX10 b).2.1 := by decide +kernel
theorem tyX10_ok : ∀ k, k < 16 → parseFieldDescriptor (TX10 k).2.2.1 = some (tyX10 k) := by decide +kernel
theorem gd_X10 : wsX100.all goodWord = true := by decide +kernel
theorem dv_X10 : ∀ j, j < 16 → defaultValue (tyX10 j) = vp_V [.null, .null, .null, .null, .null, .null, .null, .int 0, .int 0, .null, .null, .null, .null, .null, .null, .null] j := fun j hj => match j, hj with
  | 0, _ => rfl
  | 1, _ => rfl
  | 2, _ => rfl
  | 3, _ => rfl
  | 4, _ => rfl
  | 5, _ => rfl
  | 6, _ => rfl
  | 7, _ => rfl
  | 8, _ => rfl
  | 9, _ => rfl
  | 10, _ => rfl
  | 11, _ => rfl
  | 12, _ => rfl
  | 13, _ => rfl
  | 14, _ => rfl
  | 15, _ => rfl
  | n + 16, h => absurd h (by omega)
def TX11 : u_T := fun k => match k with
  | 0 => ("OwnedPlaces$Typing", "text", "LOwnedPlaces$Text;", true)
  | 1 => ("OwnedPlaces$Typing", "types", "LOwnedPlaces$Types;", true)
  | 2 => ("OwnedPlaces$Typing", "declared", "LOwnedPlaces$Declarations;", true)
  | 3 => ("OwnedPlaces$Typing", "code", "LOwnedPlaces$Code;", true)
  | 4 => ("OwnedPlaces$Typing", "function", "LOwnedPlaces$Function;", false)
  | 5 => ("OwnedPlaces$Typing", "type", "I", false)
  | 6 => ("OwnedPlaces$Typing", "isPlace", "Z", false)
  | 7 => ("OwnedPlaces$Typing", "variable", "I", false)
  | 8 => ("OwnedPlaces$Typing", "path", "I", false)
  | 9 => ("OwnedPlaces$Typing", "length", "I", false)
  | 10 => ("OwnedPlaces$Typing", "route", "I", false)
  | 11 => ("OwnedPlaces$Typing", "isMutable", "Z", false)
  | _ => ("OwnedPlaces$Typing", "from", "I", false)
def tyX11 : Nat → FieldType := fun k => match k with
  | 0 => .object "OwnedPlaces$Text"
  | 1 => .object "OwnedPlaces$Types"
  | 2 => .object "OwnedPlaces$Declarations"
  | 3 => .object "OwnedPlaces$Code"
  | 4 => .object "OwnedPlaces$Function"
  | 5 => .int
  | 6 => .boolean
  | 7 => .int
  | 8 => .int
  | 9 => .int
  | 10 => .int
  | 11 => .boolean
  | _ => .int
abbrev wsX110 : List Cond := u_ws RX11 TX11 13
theorem nmX11 : ∀ a, a < 13 → ∀ b, b < 13 → a ≠ b → (TX11 a).2.1 ≠ (TX11 b).2.1 := by decide +kernel
theorem tyX11_ok : ∀ k, k < 13 → parseFieldDescriptor (TX11 k).2.2.1 = some (tyX11 k) := by decide +kernel
theorem gd_X11 : wsX110.all goodWord = true := by decide +kernel
theorem dv_X11 : ∀ j, j < 13 → defaultValue (tyX11 j) = vp_V [.null, .null, .null, .null, .null, .int 0, .int 0, .int 0, .int 0, .int 0, .int 0, .int 0, .int 0] j := fun j hj => match j, hj with
  | 0, _ => rfl
  | 1, _ => rfl
  | 2, _ => rfl
  | 3, _ => rfl
  | 4, _ => rfl
  | 5, _ => rfl
  | 6, _ => rfl
  | 7, _ => rfl
  | 8, _ => rfl
  | 9, _ => rfl
  | 10, _ => rfl
  | 11, _ => rfl
  | 12, _ => rfl
  | n + 13, h => absurd h (by omega)
def TX12 : u_T := fun k => match k with
  | 0 => ("OwnedPlaces", "text", "LOwnedPlaces$Text;", true)
  | 1 => ("OwnedPlaces", "grammar", "LOwnedPlaces$Grammar;", true)
  | 2 => ("OwnedPlaces", "types", "LOwnedPlaces$Types;", true)
  | 3 => ("OwnedPlaces", "declared", "LOwnedPlaces$Declarations;", true)
  | 4 => ("OwnedPlaces", "code", "LOwnedPlaces$Code;", true)
  | 5 => ("OwnedPlaces", "typing", "LOwnedPlaces$Typing;", true)
  | 6 => ("OwnedPlaces", "moves", "LOwnedPlaces$Moves;", true)
  | 7 => ("OwnedPlaces", "loans", "LOwnedPlaces$Loans;", true)
  | 8 => ("OwnedPlaces", "numbers", "LOwnedPlaces$Queue;", true)
  | 9 => ("OwnedPlaces", "waiting", "LOwnedPlaces$Queue;", true)
  | 10 => ("OwnedPlaces", "memory", "LOwnedPlaces$Memory;", true)
  | 11 => ("OwnedPlaces", "machine", "LOwnedPlaces$Machine;", true)
  | 12 => ("OwnedPlaces", "fuelLeft", "I", false)
  | _ => ("OwnedPlaces", "lastPlace", "I", false)
def tyX12 : Nat → FieldType := fun k => match k with
  | 0 => .object "OwnedPlaces$Text"
  | 1 => .object "OwnedPlaces$Grammar"
  | 2 => .object "OwnedPlaces$Types"
  | 3 => .object "OwnedPlaces$Declarations"
  | 4 => .object "OwnedPlaces$Code"
  | 5 => .object "OwnedPlaces$Typing"
  | 6 => .object "OwnedPlaces$Moves"
  | 7 => .object "OwnedPlaces$Loans"
  | 8 => .object "OwnedPlaces$Queue"
  | 9 => .object "OwnedPlaces$Queue"
  | 10 => .object "OwnedPlaces$Memory"
  | 11 => .object "OwnedPlaces$Machine"
  | 12 => .int
  | _ => .int
abbrev wsX120 : List Cond := u_ws RX12 TX12 14
theorem nmX12 : ∀ a, a < 14 → ∀ b, b < 14 → a ≠ b → (TX12 a).2.1 ≠ (TX12 b).2.1 := by decide +kernel
theorem tyX12_ok : ∀ k, k < 14 → parseFieldDescriptor (TX12 k).2.2.1 = some (tyX12 k) := by decide +kernel
theorem gd_X12 : wsX120.all goodWord = true := by decide +kernel
theorem dv_X12 : ∀ j, j < 14 → defaultValue (tyX12 j) = vp_V [.null, .null, .null, .null, .null, .null, .null, .null, .null, .null, .null, .null, .int 0, .int 0] j := fun j hj => match j, hj with
  | 0, _ => rfl
  | 1, _ => rfl
  | 2, _ => rfl
  | 3, _ => rfl
  | 4, _ => rfl
  | 5, _ => rfl
  | 6, _ => rfl
  | 7, _ => rfl
  | 8, _ => rfl
  | 9, _ => rfl
  | 10, _ => rfl
  | 11, _ => rfl
  | 12, _ => rfl
  | 13, _ => rfl
  | n + 14, h => absurd h (by omega)
def TX13 : u_T := fun k => match k with
  | 0 => ("OwnedPlacesModel$Arm", "token", "I", false)
  | 1 => ("OwnedPlacesModel$Arm", "variant", "I", false)
  | 2 => ("OwnedPlacesModel$Arm", "names", "[I", false)
  | 3 => ("OwnedPlacesModel$Arm", "many", "I", false)
  | 4 => ("OwnedPlacesModel$Arm", "variables", "[LOwnedPlacesModel$Variable;", false)
  | _ => ("OwnedPlacesModel$Arm", "block", "LOwnedPlacesModel$Block;", false)
def tyX13 : Nat → FieldType := fun k => match k with
  | 0 => .int
  | 1 => .int
  | 2 => .array .int
  | 3 => .int
  | 4 => .array (.object "OwnedPlacesModel$Variable")
  | _ => .object "OwnedPlacesModel$Block"
abbrev wsX130 : List Cond := u_ws RX13 TX13 6
theorem nmX13 : ∀ a, a < 6 → ∀ b, b < 6 → a ≠ b → (TX13 a).2.1 ≠ (TX13 b).2.1 := by decide +kernel
theorem tyX13_ok : ∀ k, k < 6 → parseFieldDescriptor (TX13 k).2.2.1 = some (tyX13 k) := by decide +kernel
theorem gd_X13 : wsX130.all goodWord = true := by decide +kernel
theorem dv_X13 : ∀ j, j < 6 → defaultValue (tyX13 j) = vp_V [.int 0, .int 0, .null, .int 0, .null, .null] j := fun j hj => match j, hj with
  | 0, _ => rfl
  | 1, _ => rfl
  | 2, _ => rfl
  | 3, _ => rfl
  | 4, _ => rfl
  | 5, _ => rfl
  | n + 6, h => absurd h (by omega)
def TX14 : u_T := fun k => match k with
  | 0 => ("OwnedPlacesModel$Block", "token", "I", false)
  | 1 => ("OwnedPlacesModel$Block", "end", "I", false)
  | 2 => ("OwnedPlacesModel$Block", "list", "[LOwnedPlacesModel$Statement;", false)
  | _ => ("OwnedPlacesModel$Block", "many", "I", false)
def tyX14 : Nat → FieldType := fun k => match k with
  | 0 => .int
  | 1 => .int
  | 2 => .array (.object "OwnedPlacesModel$Statement")
  | _ => .int
abbrev wsX140 : List Cond := u_ws RX14 TX14 4
theorem nmX14 : ∀ a, a < 4 → ∀ b, b < 4 → a ≠ b → (TX14 a).2.1 ≠ (TX14 b).2.1 := by decide +kernel
theorem tyX14_ok : ∀ k, k < 4 → parseFieldDescriptor (TX14 k).2.2.1 = some (tyX14 k) := by decide +kernel
theorem gd_X14 : wsX140.all goodWord = true := by decide +kernel
theorem dv_X14 : ∀ j, j < 4 → defaultValue (tyX14 j) = vp_V [.int 0, .int 0, .null, .int 0] j := fun j hj => match j, hj with
  | 0, _ => rfl
  | 1, _ => rfl
  | 2, _ => rfl
  | 3, _ => rfl
  | n + 4, h => absurd h (by omega)
def TX15 : u_T := fun k => match k with
  | 0 => ("OwnedPlacesModel$Exp", "kind", "I", false)
  | 1 => ("OwnedPlacesModel$Exp", "token", "I", false)
  | 2 => ("OwnedPlacesModel$Exp", "sign", "I", false)
  | 3 => ("OwnedPlacesModel$Exp", "name", "I", false)
  | 4 => ("OwnedPlacesModel$Exp", "index", "I", false)
  | 5 => ("OwnedPlacesModel$Exp", "variant", "I", false)
  | 6 => ("OwnedPlacesModel$Exp", "number", "J", false)
  | 7 => ("OwnedPlacesModel$Exp", "mut", "Z", false)
  | 8 => ("OwnedPlacesModel$Exp", "of", "LOwnedPlacesModel$Exp;", false)
  | 9 => ("OwnedPlacesModel$Exp", "list", "[LOwnedPlacesModel$Exp;", false)
  | 10 => ("OwnedPlacesModel$Exp", "signs", "[I", false)
  | 11 => ("OwnedPlacesModel$Exp", "many", "I", false)
  | 12 => ("OwnedPlacesModel$Exp", "type", "LOwnedPlacesModel$Type;", false)
  | _ => ("OwnedPlacesModel$Exp", "variable", "LOwnedPlacesModel$Variable;", false)
def tyX15 : Nat → FieldType := fun k => match k with
  | 0 => .int
  | 1 => .int
  | 2 => .int
  | 3 => .int
  | 4 => .int
  | 5 => .int
  | 6 => .long
  | 7 => .boolean
  | 8 => .object "OwnedPlacesModel$Exp"
  | 9 => .array (.object "OwnedPlacesModel$Exp")
  | 10 => .array .int
  | 11 => .int
  | 12 => .object "OwnedPlacesModel$Type"
  | _ => .object "OwnedPlacesModel$Variable"
abbrev wsX150 : List Cond := u_ws RX15 TX15 14
theorem nmX15 : ∀ a, a < 14 → ∀ b, b < 14 → a ≠ b → (TX15 a).2.1 ≠ (TX15 b).2.1 := by decide +kernel
theorem tyX15_ok : ∀ k, k < 14 → parseFieldDescriptor (TX15 k).2.2.1 = some (tyX15 k) := by decide +kernel
theorem gd_X15 : wsX150.all goodWord = true := by decide +kernel
theorem dv_X15 : ∀ j, j < 14 → defaultValue (tyX15 j) = vp_V [.int 0, .int 0, .int 0, .int 0, .int 0, .int 0, .long 0, .int 0, .null, .null, .null, .int 0, .null, .null] j := fun j hj => match j, hj with
  | 0, _ => rfl
  | 1, _ => rfl
  | 2, _ => rfl
  | 3, _ => rfl
  | 4, _ => rfl
  | 5, _ => rfl
  | 6, _ => rfl
  | 7, _ => rfl
  | 8, _ => rfl
  | 9, _ => rfl
  | 10, _ => rfl
  | 11, _ => rfl
  | 12, _ => rfl
  | 13, _ => rfl
  | n + 14, h => absurd h (by omega)
def TX16 : u_T := fun k => match k with
  | 0 => ("OwnedPlacesModel$Item", "token", "I", false)
  | 1 => ("OwnedPlacesModel$Item", "name", "I", false)
  | 2 => ("OwnedPlacesModel$Item", "kind", "I", false)
  | 3 => ("OwnedPlacesModel$Item", "many", "I", false)
  | 4 => ("OwnedPlacesModel$Item", "end", "I", false)
  | 5 => ("OwnedPlacesModel$Item", "start", "I", false)
  | 6 => ("OwnedPlacesModel$Item", "lives", "I", false)
  | 7 => ("OwnedPlacesModel$Item", "resultLife", "I", false)
  | 8 => ("OwnedPlacesModel$Item", "names", "[I", false)
  | 9 => ("OwnedPlacesModel$Item", "written", "[LOwnedPlacesModel$Written;", false)
  | 10 => ("OwnedPlacesModel$Item", "types", "[LOwnedPlacesModel$Type;", false)
  | 11 => ("OwnedPlacesModel$Item", "variants", "[LOwnedPlacesModel$Parts;", false)
  | 12 => ("OwnedPlacesModel$Item", "life", "[I", false)
  | 13 => ("OwnedPlacesModel$Item", "lifeOf", "[I", false)
  | 14 => ("OwnedPlacesModel$Item", "result", "LOwnedPlacesModel$Written;", false)
  | 15 => ("OwnedPlacesModel$Item", "gives", "LOwnedPlacesModel$Type;", false)
  | 16 => ("OwnedPlacesModel$Item", "block", "LOwnedPlacesModel$Block;", false)
  | 17 => ("OwnedPlacesModel$Item", "parameters", "[LOwnedPlacesModel$Variable;", false)
  | 18 => ("OwnedPlacesModel$Item", "variables", "I", false)
  | 19 => ("OwnedPlacesModel$Item", "size", "I", false)
  | 20 => ("OwnedPlacesModel$Item", "leaves", "I", false)
  | _ => ("OwnedPlacesModel$Item", "endless", "Z", false)
def tyX16 : Nat → FieldType := fun k => match k with
  | 0 => .int
  | 1 => .int
  | 2 => .int
  | 3 => .int
  | 4 => .int
  | 5 => .int
  | 6 => .int
  | 7 => .int
  | 8 => .array .int
  | 9 => .array (.object "OwnedPlacesModel$Written")
  | 10 => .array (.object "OwnedPlacesModel$Type")
  | 11 => .array (.object "OwnedPlacesModel$Parts")
  | 12 => .array .int
  | 13 => .array .int
  | 14 => .object "OwnedPlacesModel$Written"
  | 15 => .object "OwnedPlacesModel$Type"
  | 16 => .object "OwnedPlacesModel$Block"
  | 17 => .array (.object "OwnedPlacesModel$Variable")
  | 18 => .int
  | 19 => .int
  | 20 => .int
  | _ => .boolean
abbrev wsX160 : List Cond := u_ws RX16 TX16 22
theorem nmX16 : ∀ a, a < 22 → ∀ b, b < 22 → a ≠ b → (TX16 a).2.1 ≠ (TX16 b).2.1 := by decide +kernel
theorem tyX16_ok : ∀ k, k < 22 → parseFieldDescriptor (TX16 k).2.2.1 = some (tyX16 k) := by decide +kernel
theorem gd_X16 : wsX160.all goodWord = true := by decide +kernel
theorem dv_X16 : ∀ j, j < 22 → defaultValue (tyX16 j) = vp_V [.int 0, .int 0, .int 0, .int 0, .int 0, .int 0, .int 0, .int 0, .null, .null, .null, .null, .null, .null, .null, .null, .null, .null, .int 0, .int 0, .int 0, .int 0] j := fun j hj => match j, hj with
  | 0, _ => rfl
  | 1, _ => rfl
  | 2, _ => rfl
  | 3, _ => rfl
  | 4, _ => rfl
  | 5, _ => rfl
  | 6, _ => rfl
  | 7, _ => rfl
  | 8, _ => rfl
  | 9, _ => rfl
  | 10, _ => rfl
  | 11, _ => rfl
  | 12, _ => rfl
  | 13, _ => rfl
  | 14, _ => rfl
  | 15, _ => rfl
  | 16, _ => rfl
  | 17, _ => rfl
  | 18, _ => rfl
  | 19, _ => rfl
  | 20, _ => rfl
  | 21, _ => rfl
  | n + 22, h => absurd h (by omega)
def TX17 : u_T := fun k => match k with
  | 0 => ("OwnedPlacesModel$Parts", "many", "I", false)
  | 1 => ("OwnedPlacesModel$Parts", "written", "[LOwnedPlacesModel$Written;", false)
  | _ => ("OwnedPlacesModel$Parts", "types", "[LOwnedPlacesModel$Type;", false)
def tyX17 : Nat → FieldType := fun k => match k with
  | 0 => .int
  | 1 => .array (.object "OwnedPlacesModel$Written")
  | _ => .array (.object "OwnedPlacesModel$Type")
abbrev wsX170 : List Cond := u_ws RX17 TX17 3
theorem nmX17 : ∀ a, a < 3 → ∀ b, b < 3 → a ≠ b → (TX17 a).2.1 ≠ (TX17 b).2.1 := by decide +kernel
theorem tyX17_ok : ∀ k, k < 3 → parseFieldDescriptor (TX17 k).2.2.1 = some (tyX17 k) := by decide +kernel
theorem gd_X17 : wsX170.all goodWord = true := by decide +kernel
theorem dv_X17 : ∀ j, j < 3 → defaultValue (tyX17 j) = vp_V [.int 0, .null, .null] j := fun j hj => match j, hj with
  | 0, _ => rfl
  | 1, _ => rfl
  | 2, _ => rfl
  | n + 3, h => absurd h (by omega)
def TX18 : u_T := fun k => match k with
  | 0 => ("OwnedPlacesModel$Path", "variable", "LOwnedPlacesModel$Variable;", false)
  | 1 => ("OwnedPlacesModel$Path", "many", "I", true)
  | 2 => ("OwnedPlacesModel$Path", "steps", "[I", true)
  | _ => ("OwnedPlacesModel$Path", "types", "[LOwnedPlacesModel$Type;", true)
def tyX18 : Nat → FieldType := fun k => match k with
  | 0 => .object "OwnedPlacesModel$Variable"
  | 1 => .int
  | 2 => .array .int
  | _ => .array (.object "OwnedPlacesModel$Type")
abbrev wsX180 : List Cond := u_ws RX18 TX18 4
theorem nmX18 : ∀ a, a < 4 → ∀ b, b < 4 → a ≠ b → (TX18 a).2.1 ≠ (TX18 b).2.1 := by decide +kernel
theorem tyX18_ok : ∀ k, k < 4 → parseFieldDescriptor (TX18 k).2.2.1 = some (tyX18 k) := by decide +kernel
theorem gd_X18 : wsX180.all goodWord = true := by decide +kernel
theorem dv_X18 : ∀ j, j < 4 → defaultValue (tyX18 j) = vp_V [.null, .int 0, .null, .null] j := fun j hj => match j, hj with
  | 0, _ => rfl
  | 1, _ => rfl
  | 2, _ => rfl
  | 3, _ => rfl
  | n + 4, h => absurd h (by omega)
def TX19 : u_T := fun k => match k with
  | 0 => ("OwnedPlacesModel$Statement", "kind", "I", false)
  | 1 => ("OwnedPlacesModel$Statement", "token", "I", false)
  | 2 => ("OwnedPlacesModel$Statement", "name", "I", false)
  | 3 => ("OwnedPlacesModel$Statement", "mut", "Z", false)
  | 4 => ("OwnedPlacesModel$Statement", "refers", "Z", false)
  | 5 => ("OwnedPlacesModel$Statement", "written", "LOwnedPlacesModel$Written;", false)
  | 6 => ("OwnedPlacesModel$Statement", "exp", "LOwnedPlacesModel$Exp;", false)
  | 7 => ("OwnedPlacesModel$Statement", "place", "LOwnedPlacesModel$Exp;", false)
  | 8 => ("OwnedPlacesModel$Statement", "variable", "LOwnedPlacesModel$Variable;", false)
  | 9 => ("OwnedPlacesModel$Statement", "block", "LOwnedPlacesModel$Block;", false)
  | 10 => ("OwnedPlacesModel$Statement", "conditions", "[LOwnedPlacesModel$Exp;", false)
  | 11 => ("OwnedPlacesModel$Statement", "blocks", "[LOwnedPlacesModel$Block;", false)
  | 12 => ("OwnedPlacesModel$Statement", "arms", "[LOwnedPlacesModel$Arm;", false)
  | _ => ("OwnedPlacesModel$Statement", "many", "I", false)
def tyX19 : Nat → FieldType := fun k => match k with
  | 0 => .int
  | 1 => .int
  | 2 => .int
  | 3 => .boolean
  | 4 => .boolean
  | 5 => .object "OwnedPlacesModel$Written"
  | 6 => .object "OwnedPlacesModel$Exp"
  | 7 => .object "OwnedPlacesModel$Exp"
  | 8 => .object "OwnedPlacesModel$Variable"
  | 9 => .object "OwnedPlacesModel$Block"
  | 10 => .array (.object "OwnedPlacesModel$Exp")
  | 11 => .array (.object "OwnedPlacesModel$Block")
  | 12 => .array (.object "OwnedPlacesModel$Arm")
  | _ => .int
abbrev wsX190 : List Cond := u_ws RX19 TX19 14
theorem nmX19 : ∀ a, a < 14 → ∀ b, b < 14 → a ≠ b → (TX19 a).2.1 ≠ (TX19 b).2.1 := by decide +kernel
theorem tyX19_ok : ∀ k, k < 14 → parseFieldDescriptor (TX19 k).2.2.1 = some (tyX19 k) := by decide +kernel
theorem gd_X19 : wsX190.all goodWord = true := by decide +kernel
theorem dv_X19 : ∀ j, j < 14 → defaultValue (tyX19 j) = vp_V [.int 0, .int 0, .int 0, .int 0, .int 0, .null, .null, .null, .null, .null, .null, .null, .null, .int 0] j := fun j hj => match j, hj with
  | 0, _ => rfl
  | 1, _ => rfl
  | 2, _ => rfl
  | 3, _ => rfl
  | 4, _ => rfl
  | 5, _ => rfl
  | 6, _ => rfl
  | 7, _ => rfl
  | 8, _ => rfl
  | 9, _ => rfl
  | 10, _ => rfl
  | 11, _ => rfl
  | 12, _ => rfl
  | 13, _ => rfl
  | n + 14, h => absurd h (by omega)
def TX20 : u_T := fun k => match k with
  | 0 => ("OwnedPlacesModel$Type", "kind", "I", false)
  | 1 => ("OwnedPlacesModel$Type", "index", "I", false)
  | 2 => ("OwnedPlacesModel$Type", "id", "I", false)
  | _ => ("OwnedPlacesModel$Type", "of", "LOwnedPlacesModel$Type;", false)
def tyX20 : Nat → FieldType := fun k => match k with
  | 0 => .int
  | 1 => .int
  | 2 => .int
  | _ => .object "OwnedPlacesModel$Type"
abbrev wsX200 : List Cond := u_ws RX20 TX20 4
theorem nmX20 : ∀ a, a < 4 → ∀ b, b < 4 → a ≠ b → (TX20 a).2.1 ≠ (TX20 b).2.1 := by decide +kernel
theorem tyX20_ok : ∀ k, k < 4 → parseFieldDescriptor (TX20 k).2.2.1 = some (tyX20 k) := by decide +kernel
theorem gd_X20 : wsX200.all goodWord = true := by decide +kernel
theorem dv_X20 : ∀ j, j < 4 → defaultValue (tyX20 j) = vp_V [.int 0, .int 0, .int 0, .null] j := fun j hj => match j, hj with
  | 0, _ => rfl
  | 1, _ => rfl
  | 2, _ => rfl
  | 3, _ => rfl
  | n + 4, h => absurd h (by omega)
def TX21 : u_T := fun k => match k with
  | 0 => ("OwnedPlacesModel$Variable", "index", "I", false)
  | 1 => ("OwnedPlacesModel$Variable", "name", "I", false)
  | 2 => ("OwnedPlacesModel$Variable", "type", "LOwnedPlacesModel$Type;", false)
  | 3 => ("OwnedPlacesModel$Variable", "mut", "Z", false)
  | _ => ("OwnedPlacesModel$Variable", "whole", "LOwnedPlacesModel$Path;", false)
def tyX21 : Nat → FieldType := fun k => match k with
  | 0 => .int
  | 1 => .int
  | 2 => .object "OwnedPlacesModel$Type"
  | 3 => .boolean
  | _ => .object "OwnedPlacesModel$Path"
abbrev wsX210 : List Cond := u_ws RX21 TX21 5
theorem nmX21 : ∀ a, a < 5 → ∀ b, b < 5 → a ≠ b → (TX21 a).2.1 ≠ (TX21 b).2.1 := by decide +kernel
theorem tyX21_ok : ∀ k, k < 5 → parseFieldDescriptor (TX21 k).2.2.1 = some (tyX21 k) := by decide +kernel
theorem gd_X21 : wsX210.all goodWord = true := by decide +kernel
theorem dv_X21 : ∀ j, j < 5 → defaultValue (tyX21 j) = vp_V [.int 0, .int 0, .null, .int 0, .null] j := fun j hj => match j, hj with
  | 0, _ => rfl
  | 1, _ => rfl
  | 2, _ => rfl
  | 3, _ => rfl
  | 4, _ => rfl
  | n + 5, h => absurd h (by omega)
def TX22 : u_T := fun k => match k with
  | 0 => ("OwnedPlacesModel$Written", "kind", "I", false)
  | 1 => ("OwnedPlacesModel$Written", "token", "I", false)
  | 2 => ("OwnedPlacesModel$Written", "name", "I", false)
  | 3 => ("OwnedPlacesModel$Written", "life", "I", false)
  | _ => ("OwnedPlacesModel$Written", "of", "LOwnedPlacesModel$Written;", false)
def tyX22 : Nat → FieldType := fun k => match k with
  | 0 => .int
  | 1 => .int
  | 2 => .int
  | 3 => .int
  | _ => .object "OwnedPlacesModel$Written"
abbrev wsX220 : List Cond := u_ws RX22 TX22 5
theorem nmX22 : ∀ a, a < 5 → ∀ b, b < 5 → a ≠ b → (TX22 a).2.1 ≠ (TX22 b).2.1 := by decide +kernel
theorem tyX22_ok : ∀ k, k < 5 → parseFieldDescriptor (TX22 k).2.2.1 = some (tyX22 k) := by decide +kernel
theorem gd_X22 : wsX220.all goodWord = true := by decide +kernel
theorem dv_X22 : ∀ j, j < 5 → defaultValue (tyX22 j) = vp_V [.int 0, .int 0, .int 0, .int 0, .null] j := fun j hj => match j, hj with
  | 0, _ => rfl
  | 1, _ => rfl
  | 2, _ => rfl
  | 3, _ => rfl
  | 4, _ => rfl
  | n + 5, h => absurd h (by omega)
def TX23 : u_T := fun k => match k with
  | 0 => ("OwnedPlacesModel", "text", "[I", true)
  | 1 => ("OwnedPlacesModel", "length", "I", false)
  | 2 => ("OwnedPlacesModel", "size", "I", false)
  | 3 => ("OwnedPlacesModel", "fault", "I", false)
  | 4 => ("OwnedPlacesModel", "faultAt", "I", false)
  | 5 => ("OwnedPlacesModel", "tokenKind", "[I", true)
  | 6 => ("OwnedPlacesModel", "tokenAt", "[I", true)
  | 7 => ("OwnedPlacesModel", "tokenEnd", "[I", true)
  | 8 => ("OwnedPlacesModel", "tokenNumber", "[J", true)
  | 9 => ("OwnedPlacesModel", "tokens", "I", false)
  | 10 => ("OwnedPlacesModel", "p", "I", false)
  | 11 => ("OwnedPlacesModel", "items", "[LOwnedPlacesModel$Item;", true)
  | 12 => ("OwnedPlacesModel", "itemMany", "I", false)
  | 13 => ("OwnedPlacesModel", "typeItems", "I", false)
  | 14 => ("OwnedPlacesModel", "functions", "I", false)
  | 15 => ("OwnedPlacesModel", "nest", "I", false)
  | 16 => ("OwnedPlacesModel", "variables", "I", false)
  | 17 => ("OwnedPlacesModel", "borrows", "I", false)
  | 18 => ("OwnedPlacesModel", "types", "[LOwnedPlacesModel$Type;", true)
  | 19 => ("OwnedPlacesModel", "typeMany", "I", false)
  | 20 => ("OwnedPlacesModel", "holds", "[Z", true)
  | 21 => ("OwnedPlacesModel", "main", "I", false)
  | 22 => ("OwnedPlacesModel", "scope", "[LOwnedPlacesModel$Variable;", true)
  | 23 => ("OwnedPlacesModel", "scopeMany", "I", false)
  | 24 => ("OwnedPlacesModel", "variableMany", "I", false)
  | 25 => ("OwnedPlacesModel", "function", "LOwnedPlacesModel$Item;", false)
  | 26 => ("OwnedPlacesModel", "points", "I", false)
  | 27 => ("OwnedPlacesModel", "kind", "[I", true)
  | 28 => ("OwnedPlacesModel", "one", "[I", true)
  | 29 => ("OwnedPlacesModel", "two", "[I", true)
  | 30 => ("OwnedPlacesModel", "jump", "[I", true)
  | 31 => ("OwnedPlacesModel", "number", "[J", true)
  | 32 => ("OwnedPlacesModel", "token", "[I", true)
  | 33 => ("OwnedPlacesModel", "access", "[I", true)
  | 34 => ("OwnedPlacesModel", "holder", "[I", true)
  | 35 => ("OwnedPlacesModel", "loan", "[I", true)
  | 36 => ("OwnedPlacesModel", "from", "[[I", true)
  | 37 => ("OwnedPlacesModel", "used", "[[I", true)
  | 38 => ("OwnedPlacesModel", "path", "[LOwnedPlacesModel$Path;", true)
  | 39 => ("OwnedPlacesModel", "ofType", "[LOwnedPlacesModel$Type;", true)
  | 40 => ("OwnedPlacesModel", "variable", "[LOwnedPlacesModel$Variable;", true)
  | 41 => ("OwnedPlacesModel", "armOf", "[LOwnedPlacesModel$Arm;", true)
  | 42 => ("OwnedPlacesModel", "targets", "[[I", true)
  | 43 => ("OwnedPlacesModel", "loanPath", "[LOwnedPlacesModel$Path;", true)
  | 44 => ("OwnedPlacesModel", "loanShared", "[Z", true)
  | 45 => ("OwnedPlacesModel", "outerOf", "[I", true)
  | 46 => ("OwnedPlacesModel", "outerLife", "[I", true)
  | 47 => ("OwnedPlacesModel", "loans", "I", false)
  | 48 => ("OwnedPlacesModel", "height", "I", false)
  | 49 => ("OwnedPlacesModel", "alive", "[LOwnedPlacesModel$Variable;", true)
  | 50 => ("OwnedPlacesModel", "aliveMany", "I", false)
  | 51 => ("OwnedPlacesModel", "single", "[[I", true)
  | 52 => ("OwnedPlacesModel", "reached", "[Z", true)
  | 53 => ("OwnedPlacesModel", "without", "[J", true)
  | 54 => ("OwnedPlacesModel", "having", "[J", true)
  | 55 => ("OwnedPlacesModel", "outWithout", "[J", true)
  | 56 => ("OwnedPlacesModel", "outHaving", "[J", true)
  | 57 => ("OwnedPlacesModel", "partMany", "I", false)
  | 58 => ("OwnedPlacesModel", "lives", "[J", true)
  | 59 => ("OwnedPlacesModel", "holding", "[J", true)
  | 60 => ("OwnedPlacesModel", "behind", "[J", true)
  | 61 => ("OwnedPlacesModel", "worth", "[J", true)
  | 62 => ("OwnedPlacesModel", "has", "[Z", true)
  | 63 => ("OwnedPlacesModel", "next", "[I", true)
  | 64 => ("OwnedPlacesModel", "poolTop", "I", false)
  | 65 => ("OwnedPlacesModel", "poolFree", "I", false)
  | 66 => ("OwnedPlacesModel", "heapLong", "I", true)
  | 67 => ("OwnedPlacesModel", "taken", "[Z", true)
  | 68 => ("OwnedPlacesModel", "inUse", "I", false)
  | 69 => ("OwnedPlacesModel", "most", "I", false)
  | 70 => ("OwnedPlacesModel", "fuel", "I", false)
  | 71 => ("OwnedPlacesModel", "fuelLeft", "I", false)
  | 72 => ("OwnedPlacesModel", "stack", "[J", true)
  | 73 => ("OwnedPlacesModel", "stackTop", "I", false)
  | 74 => ("OwnedPlacesModel", "place", "[I", true)
  | 75 => ("OwnedPlacesModel", "frameBack", "[I", true)
  | 76 => ("OwnedPlacesModel", "frames", "I", false)
  | 77 => ("OwnedPlacesModel", "now", "I", false)
  | 78 => ("OwnedPlacesModel", "doWhat", "[I", true)
  | 79 => ("OwnedPlacesModel", "doType", "[I", true)
  | 80 => ("OwnedPlacesModel", "doNode", "[I", true)
  | 81 => ("OwnedPlacesModel", "doTop", "I", false)
  | 82 => ("OwnedPlacesModel", "waiting", "[I", true)
  | 83 => ("OwnedPlacesModel", "waitFrom", "I", false)
  | 84 => ("OwnedPlacesModel", "waitLong", "I", false)
  | 85 => ("OwnedPlacesModel", "inputs", "[J", true)
  | 86 => ("OwnedPlacesModel", "inputMany", "I", false)
  | 87 => ("OwnedPlacesModel", "thrown", "I", false)
  | _ => ("OwnedPlacesModel", "told", "I", false)
def tyX23 : Nat → FieldType := fun k => match k with
  | 0 => .array .int
  | 1 => .int
  | 2 => .int
  | 3 => .int
  | 4 => .int
  | 5 => .array .int
  | 6 => .array .int
  | 7 => .array .int
  | 8 => .array .long
  | 9 => .int
  | 10 => .int
  | 11 => .array (.object "OwnedPlacesModel$Item")
  | 12 => .int
  | 13 => .int
  | 14 => .int
  | 15 => .int
  | 16 => .int
  | 17 => .int
  | 18 => .array (.object "OwnedPlacesModel$Type")
  | 19 => .int
  | 20 => .array .boolean
  | 21 => .int
  | 22 => .array (.object "OwnedPlacesModel$Variable")
  | 23 => .int
  | 24 => .int
  | 25 => .object "OwnedPlacesModel$Item"
  | 26 => .int
  | 27 => .array .int
  | 28 => .array .int
  | 29 => .array .int
  | 30 => .array .int
  | 31 => .array .long
  | 32 => .array .int
  | 33 => .array .int
  | 34 => .array .int
  | 35 => .array .int
  | 36 => .array (.array .int)
  | 37 => .array (.array .int)
  | 38 => .array (.object "OwnedPlacesModel$Path")
  | 39 => .array (.object "OwnedPlacesModel$Type")
  | 40 => .array (.object "OwnedPlacesModel$Variable")
  | 41 => .array (.object "OwnedPlacesModel$Arm")
  | 42 => .array (.array .int)
  | 43 => .array (.object "OwnedPlacesModel$Path")
  | 44 => .array .boolean
  | 45 => .array .int
  | 46 => .array .int
  | 47 => .int
  | 48 => .int
  | 49 => .array (.object "OwnedPlacesModel$Variable")
  | 50 => .int
  | 51 => .array (.array .int)
  | 52 => .array .boolean
  | 53 => .array .long
  | 54 => .array .long
  | 55 => .array .long
  | 56 => .array .long
  | 57 => .int
  | 58 => .array .long
  | 59 => .array .long
  | 60 => .array .long
  | 61 => .array .long
  | 62 => .array .boolean
  | 63 => .array .int
  | 64 => .int
  | 65 => .int
  | 66 => .int
  | 67 => .array .boolean
  | 68 => .int
  | 69 => .int
  | 70 => .int
  | 71 => .int
  | 72 => .array .long
  | 73 => .int
  | 74 => .array .int
  | 75 => .array .int
  | 76 => .int
  | 77 => .int
  | 78 => .array .int
  | 79 => .array .int
  | 80 => .array .int
  | 81 => .int
  | 82 => .array .int
  | 83 => .int
  | 84 => .int
  | 85 => .array .long
  | 86 => .int
  | 87 => .int
  | _ => .int
abbrev wsX230 : List Cond := u_ws RX23 TX23 89
theorem nmX23 : ∀ a, a < 89 → ∀ b, b < 89 → a ≠ b → (TX23 a).2.1 ≠ (TX23 b).2.1 := by decide +kernel
theorem tyX23_ok : ∀ k, k < 89 → parseFieldDescriptor (TX23 k).2.2.1 = some (tyX23 k) := by decide +kernel
theorem gd_X23 : wsX230.all goodWord = true := by decide +kernel
theorem dv_X23 : ∀ j, j < 89 → defaultValue (tyX23 j) = vp_V [.null, .int 0, .int 0, .int 0, .int 0, .null, .null, .null, .null, .int 0, .int 0, .null, .int 0, .int 0, .int 0, .int 0, .int 0, .int 0, .null, .int 0, .null, .int 0, .null, .int 0, .int 0, .null, .int 0, .null, .null, .null, .null, .null, .null, .null, .null, .null, .null, .null, .null, .null, .null, .null, .null, .null, .null, .null, .null, .int 0, .int 0, .null, .int 0, .null, .null, .null, .null, .null, .null, .int 0, .null, .null, .null, .null, .null, .null, .int 0, .int 0, .int 0, .null, .int 0, .int 0, .int 0, .int 0, .null, .int 0, .null, .null, .int 0, .int 0, .null, .null, .null, .int 0, .null, .int 0, .int 0, .null, .int 0, .int 0, .int 0] j := fun j hj => match j, hj with
  | 0, _ => rfl
  | 1, _ => rfl
  | 2, _ => rfl
  | 3, _ => rfl
  | 4, _ => rfl
  | 5, _ => rfl
  | 6, _ => rfl
  | 7, _ => rfl
  | 8, _ => rfl
  | 9, _ => rfl
  | 10, _ => rfl
  | 11, _ => rfl
  | 12, _ => rfl
  | 13, _ => rfl
  | 14, _ => rfl
  | 15, _ => rfl
  | 16, _ => rfl
  | 17, _ => rfl
  | 18, _ => rfl
  | 19, _ => rfl
  | 20, _ => rfl
  | 21, _ => rfl
  | 22, _ => rfl
  | 23, _ => rfl
  | 24, _ => rfl
  | 25, _ => rfl
  | 26, _ => rfl
  | 27, _ => rfl
  | 28, _ => rfl
  | 29, _ => rfl
  | 30, _ => rfl
  | 31, _ => rfl
  | 32, _ => rfl
  | 33, _ => rfl
  | 34, _ => rfl
  | 35, _ => rfl
  | 36, _ => rfl
  | 37, _ => rfl
  | 38, _ => rfl
  | 39, _ => rfl
  | 40, _ => rfl
  | 41, _ => rfl
  | 42, _ => rfl
  | 43, _ => rfl
  | 44, _ => rfl
  | 45, _ => rfl
  | 46, _ => rfl
  | 47, _ => rfl
  | 48, _ => rfl
  | 49, _ => rfl
  | 50, _ => rfl
  | 51, _ => rfl
  | 52, _ => rfl
  | 53, _ => rfl
  | 54, _ => rfl
  | 55, _ => rfl
  | 56, _ => rfl
  | 57, _ => rfl
  | 58, _ => rfl
  | 59, _ => rfl
  | 60, _ => rfl
  | 61, _ => rfl
  | 62, _ => rfl
  | 63, _ => rfl
  | 64, _ => rfl
  | 65, _ => rfl
  | 66, _ => rfl
  | 67, _ => rfl
  | 68, _ => rfl
  | 69, _ => rfl
  | 70, _ => rfl
  | 71, _ => rfl
  | 72, _ => rfl
  | 73, _ => rfl
  | 74, _ => rfl
  | 75, _ => rfl
  | 76, _ => rfl
  | 77, _ => rfl
  | 78, _ => rfl
  | 79, _ => rfl
  | 80, _ => rfl
  | 81, _ => rfl
  | 82, _ => rfl
  | 83, _ => rfl
  | 84, _ => rfl
  | 85, _ => rfl
  | 86, _ => rfl
  | 87, _ => rfl
  | 88, _ => rfl
  | n + 89, h => absurd h (by omega)
abbrev cX12_init : ByteArray := prog_1_method_1_code
def yX12_init : MethodName := ⟨RX12, "<init>", "(I)V"⟩
abbrev cX12_feed : ByteArray := prog_1_method_2_code
def yX12_feed : MethodName := ⟨RX12, "feed", "(IIIII)Z"⟩
abbrev cX12_input : ByteArray := prog_1_method_3_code
def yX12_input : MethodName := ⟨RX12, "input", "(J)Z"⟩
abbrev cX12_run : ByteArray := prog_1_method_4_code
def yX12_run : MethodName := ⟨RX12, "run", "(II)I"⟩
abbrev cX12_place : ByteArray := prog_1_method_5_code
def yX12_place : MethodName := ⟨RX12, "place", "()I"⟩
abbrev cX12_fetch : ByteArray := prog_1_method_6_code
def yX12_fetch : MethodName := ⟨RX12, "fetch", "()J"⟩
abbrev cX12_count : ByteArray := prog_1_method_7_code
def yX12_count : MethodName := ⟨RX12, "count", "(I)I"⟩
abbrev cX12_lookOver : ByteArray := prog_1_method_8_code
def yX12_lookOver : MethodName := ⟨RX12, "lookOver", "(I)V"⟩
abbrev cX9_init : ByteArray := prog_11_method_1_code
def yX9_init : MethodName := ⟨RX9, "<init>", "()V"⟩
abbrev cX9_append : ByteArray := prog_11_method_2_code
def yX9_append : MethodName := ⟨RX9, "append", "(I)V"⟩
abbrev cX9_read : ByteArray := prog_11_method_3_code
def yX9_read : MethodName := ⟨RX9, "read", "(I)V"⟩
abbrev cX9_kind : ByteArray := prog_11_method_4_code
def yX9_kind : MethodName := ⟨RX9, "kind", "()I"⟩
abbrev cX9_where : ByteArray := prog_11_method_5_code
def yX9_where : MethodName := ⟨RX9, "where", "()I"⟩
abbrev cX9_step : ByteArray := prog_11_method_7_code
def yX9_step : MethodName := ⟨RX9, "step", "(I)V"⟩
abbrev cX9_fail : ByteArray := prog_11_method_10_code
def yX9_fail : MethodName := ⟨RX9, "fail", "(II)V"⟩
abbrev cX9_add : ByteArray := prog_11_method_11_code
def yX9_add : MethodName := ⟨RX9, "add", "(III)V"⟩
abbrev cX9_nameOf : ByteArray := prog_11_method_22_code
def yX9_nameOf : MethodName := ⟨RX9, "nameOf", "([BII)I"⟩
abbrev cX9_isSpelled : ByteArray := prog_11_method_23_code
def yX9_isSpelled : MethodName := ⟨RX9, "isSpelled", "(I[BII)Z"⟩
abbrev cX9_addName : ByteArray := prog_11_method_24_code
def yX9_addName : MethodName := ⟨RX9, "addName", "(I[BII)I"⟩
abbrev cX3_init : ByteArray := prog_5_method_1_code
def yX3_init : MethodName := ⟨RX3, "<init>", "(LOwnedPlaces$Text;)V"⟩
abbrev cX3_program : ByteArray := prog_5_method_2_code
def yX3_program : MethodName := ⟨RX3, "program", "()V"⟩
abbrev cX10_init : ByteArray := prog_12_method_1_code
def yX10_init : MethodName := ⟨RX10, "<init>", "()V"⟩
abbrev cX10_clear : ByteArray := prog_12_method_2_code
def yX10_clear : MethodName := ⟨RX10, "clear", "()V"⟩
abbrev cX10_make : ByteArray := prog_12_method_8_code
def yX10_make : MethodName := ⟨RX10, "make", "(II)I"⟩
abbrev cX10_measure : ByteArray := prog_12_method_14_code
def yX10_measure : MethodName := ⟨RX10, "measure", "()V"⟩
abbrev cX1_init : ByteArray := prog_3_method_1_code
def yX1_init : MethodName := ⟨RX1, "<init>", "(LOwnedPlaces$Text;LOwnedPlaces$Types;)V"⟩
abbrev cX1_read : ByteArray := prog_3_method_2_code
def yX1_read : MethodName := ⟨RX1, "read", "(LOwnedPlaces$Grammar;)V"⟩
abbrev cX1_functionOf : ByteArray := prog_3_method_4_code
def yX1_functionOf : MethodName := ⟨RX1, "functionOf", "(I)I"⟩
abbrev cX1_checkSizes : ByteArray := prog_3_method_18_code
def yX1_checkSizes : MethodName := ⟨RX1, "checkSizes", "()V"⟩
abbrev cX1_checkMain : ByteArray := prog_3_method_19_code
def yX1_checkMain : MethodName := ⟨RX1, "checkMain", "()V"⟩
abbrev cX2_init : ByteArray := prog_4_method_1_code
def yX2_init : MethodName := ⟨RX2, "<init>", "()V"⟩
abbrev cX0_init : ByteArray := prog_2_method_1_code
def yX0_init : MethodName := ⟨RX0, "<init>", "()V"⟩
abbrev cX11_init : ByteArray := prog_13_method_1_code
def yX11_init : MethodName := ⟨RX11, "<init>", "(LOwnedPlaces$Text;LOwnedPlaces$Types;LOwnedPlaces$Declarations;LOwnedPlaces$Code;)V"⟩
abbrev cX7_init : ByteArray := prog_9_method_1_code
def yX7_init : MethodName := ⟨RX7, "<init>", "(LOwnedPlaces$Types;LOwnedPlaces$Code;)V"⟩
abbrev cX4_init : ByteArray := prog_6_method_1_code
def yX4_init : MethodName := ⟨RX4, "<init>", "(LOwnedPlaces$Types;LOwnedPlaces$Code;LOwnedPlaces$Declarations;)V"⟩
abbrev cX8_init : ByteArray := prog_10_method_1_code
def yX8_init : MethodName := ⟨RX8, "<init>", "(I)V"⟩
abbrev cX8_put : ByteArray := prog_10_method_2_code
def yX8_put : MethodName := ⟨RX8, "put", "(J)Z"⟩
abbrev cX6_init : ByteArray := prog_8_method_1_code
def yX6_init : MethodName := ⟨RX6, "<init>", "(LOwnedPlaces$Types;LOwnedPlaces$Queue;I)V"⟩
abbrev cX6_clear : ByteArray := prog_8_method_2_code
def yX6_clear : MethodName := ⟨RX6, "clear", "()V"⟩
abbrev cX5_init : ByteArray := prog_7_method_1_code
def yX5_init : MethodName := ⟨RX5, "<init>", "(LOwnedPlaces$Code;LOwnedPlaces$Types;LOwnedPlaces$Declarations;LOwnedPlaces$Memory;LOwnedPlaces$Queue;LOwnedPlaces$Queue;)V"⟩
abbrev cJ7_fill_53178 : ByteArray := prog_32_method_103_code
def yJ7_fill_53178 : MethodName := ⟨RJ7, "fill", "([II)V"⟩
abbrev cJ7_fill_fda19 : ByteArray := prog_32_method_104_code
def yJ7_fill_fda19 : MethodName := ⟨RJ7, "fill", "([IIII)V"⟩
abbrev cJ7_fill_031fb : ByteArray := prog_32_method_109_code
def yJ7_fill_031fb : MethodName := ⟨RJ7, "fill", "([BB)V"⟩
abbrev cJ7_rangeCheck_23922 : ByteArray := prog_32_method_30_code
def yJ7_rangeCheck_23922 : MethodName := ⟨RJ7, "rangeCheck", "(III)V"⟩
abbrev cJ9_min_7cf53 : ByteArray := prog_27_method_69_code
def yJ9_min_7cf53 : MethodName := ⟨RJ9, "min", "(II)I"⟩
abbrev cJ0_length_8abf5 : ByteArray := prog_28_method_54_code
def yJ0_length_8abf5 : MethodName := ⟨RJ0, "length", "()I"⟩
abbrev cJ0_charAt_5068e : ByteArray := prog_28_method_56_code
def yJ0_charAt_5068e : MethodName := ⟨RJ0, "charAt", "(I)C"⟩
abbrev cJ0_coder_7d493 : ByteArray := prog_28_method_152_code
def yJ0_coder_7d493 : MethodName := ⟨RJ0, "coder", "()B"⟩
abbrev cJ0_isLatin1_aae02 : ByteArray := prog_28_method_154_code
def yJ0_isLatin1_aae02 : MethodName := ⟨RJ0, "isLatin1", "()Z"⟩
abbrev cJ0_checkIndex_df160 : ByteArray := prog_28_method_155_code
def yJ0_checkIndex_df160 : MethodName := ⟨RJ0, "checkIndex", "(II)V"⟩
abbrev cJ1_charAt_3b067 : ByteArray := prog_29_method_2_code
def yJ1_charAt_3b067 : MethodName := ⟨RJ1, "charAt", "([BI)C"⟩
abbrev cJ3_checkIndex_8e157 : ByteArray := prog_33_method_11_code
def yJ3_checkIndex_8e157 : MethodName := ⟨RJ3, "checkIndex", "(IILjava/util/function/BiFunction;)I"⟩
abbrev cX23_init : ByteArray := prog_15_method_156_code
def yX23_init : MethodName := ⟨RX23, "<init>", "(I)V"⟩
abbrev cX23_feed : ByteArray := prog_15_method_203_code
def yX23_feed : MethodName := ⟨RX23, "feed", "(IIIII)Z"⟩
abbrev cX23_feedWord : ByteArray := prog_15_method_202_code
def yX23_feedWord : MethodName := ⟨RX23, "feedWord", "(I)V"⟩
abbrev cX23_input : ByteArray := prog_15_method_204_code
def yX23_input : MethodName := ⟨RX23, "input", "(J)Z"⟩
abbrev cX23_run : ByteArray := prog_15_method_205_code
def yX23_run : MethodName := ⟨RX23, "run", "(II)I"⟩
abbrev cX23_place : ByteArray := prog_15_method_76_code
def yX23_place : MethodName := ⟨RX23, "place", "(LOwnedPlacesModel$Exp;)LOwnedPlacesModel$Type;"⟩
abbrev cX23_fetch : ByteArray := prog_15_method_207_code
def yX23_fetch : MethodName := ⟨RX23, "fetch", "()J"⟩
abbrev cX23_count : ByteArray := prog_15_method_208_code
def yX23_count : MethodName := ⟨RX23, "count", "(I)I"⟩
abbrev cX23_scan : ByteArray := prog_15_method_11_code
def yX23_scan : MethodName := ⟨RX23, "scan", "()V"⟩
abbrev cX23_behindBlanks : ByteArray := prog_15_method_4_code
def yX23_behindBlanks : MethodName := ⟨RX23, "behindBlanks", "(I)I"⟩
abbrev cX23_at : ByteArray := prog_15_method_3_code
def yX23_at : MethodName := ⟨RX23, "at", "(I)I"⟩
abbrev cX23_addToken : ByteArray := prog_15_method_7_code
def yX23_addToken : MethodName := ⟨RX23, "addToken", "(IIIJ)V"⟩
abbrev cX23_program : ByteArray := prog_15_method_28_code
def yX23_program : MethodName := ⟨RX23, "program", "()V"⟩
abbrev cX23_ok : ByteArray := prog_15_method_12_code
def yX23_ok : MethodName := ⟨RX23, "ok", "()Z"⟩
abbrev cX23_is : ByteArray := prog_15_method_16_code
def yX23_is : MethodName := ⟨RX23, "is", "(I)Z"⟩
abbrev cX23_fail : ByteArray := prog_15_method_13_code
def yX23_fail : MethodName := ⟨RX23, "fail", "(II)V"⟩
abbrev cX23_typeAll : ByteArray := prog_15_method_102_code
def yX23_typeAll : MethodName := ⟨RX23, "typeAll", "()V"⟩
abbrev cX23_itemNames : ByteArray := prog_15_method_60_code
def yX23_itemNames : MethodName := ⟨RX23, "itemNames", "()V"⟩
abbrev cX23_sizes : ByteArray := prog_15_method_67_code
def yX23_sizes : MethodName := ⟨RX23, "sizes", "()V"⟩
abbrev cX23_leaves : ByteArray := prog_15_method_69_code
def yX23_leaves : MethodName := ⟨RX23, "leaves", "()V"⟩
abbrev cX23_findMain : ByteArray := prog_15_method_70_code
def yX23_findMain : MethodName := ⟨RX23, "findMain", "()V"⟩
abbrev cL_cell : ByteArray := method_2_code
def yL_cell : MethodName := ⟨RL, "cell", "([II)I"⟩
abbrev cL_law : ByteArray := code
abbrev vwCl : List vw_C := [(RX0, TX0, 18), (RX1, TX1, 8), (RX2, TX2, 22), (RX3, TX3, 7), (RX4, TX4, 18), (RX5, TX5, 19), (RX6, TX6, 12), (RX7, TX7, 9), (RX8, TX8, 4), (RX9, TX9, 18), (RX10, TX10, 16), (RX11, TX11, 13), (RX12, TX12, 14), (RX13, TX13, 6), (RX14, TX14, 4), (RX15, TX15, 14), (RX16, TX16, 22), (RX17, TX17, 3), (RX18, TX18, 4), (RX19, TX19, 14), (RX20, TX20, 4), (RX21, TX21, 5), (RX22, TX22, 5), (RX23, TX23, 89)]
end
section
theorem dX12_init_0 : decode cX12_init 0 = .ok (.aload_n 0, 1) := by decide +kernel
theorem dX12_init_1 : decode cX12_init 1 = .ok (.invokespecial 3, 3) := by decide +kernel
theorem dX12_init_4 : decode cX12_init 4 = .ok (.aload_n 0, 1) := by decide +kernel
theorem dX12_init_5 : decode cX12_init 5 = .ok (.new 9, 3) := by decide +kernel
theorem dX12_init_8 : decode cX12_init 8 = .ok (.dup, 1) := by decide +kernel
theorem dX12_init_9 : decode cX12_init 9 = .ok (.invokespecial 11, 3) := by decide +kernel
theorem dX12_init_12 : decode cX12_init 12 = .ok (.putfield 12, 3) := by decide +kernel
theorem dX12_init_15 : decode cX12_init 15 = .ok (.aload_n 0, 1) := by decide +kernel
theorem dX12_init_16 : decode cX12_init 16 = .ok (.new 16, 3) := by decide +kernel
theorem dX12_init_19 : decode cX12_init 19 = .ok (.dup, 1) := by decide +kernel
theorem dX12_init_20 : decode cX12_init 20 = .ok (.aload_n 0, 1) := by decide +kernel
theorem dX12_init_21 : decode cX12_init 21 = .ok (.getfield 12, 3) := by decide +kernel
theorem dX12_init_24 : decode cX12_init 24 = .ok (.invokespecial 18, 3) := by decide +kernel
theorem dX12_init_27 : decode cX12_init 27 = .ok (.putfield 21, 3) := by decide +kernel
theorem dX12_init_30 : decode cX12_init 30 = .ok (.aload_n 0, 1) := by decide +kernel
theorem dX12_init_31 : decode cX12_init 31 = .ok (.new 25, 3) := by decide +kernel
theorem dX12_init_34 : decode cX12_init 34 = .ok (.dup, 1) := by decide +kernel
theorem dX12_init_35 : decode cX12_init 35 = .ok (.invokespecial 27, 3) := by decide +kernel
theorem dX12_init_38 : decode cX12_init 38 = .ok (.putfield 28, 3) := by decide +kernel
theorem dX12_init_41 : decode cX12_init 41 = .ok (.aload_n 0, 1) := by decide +kernel
theorem dX12_init_42 : decode cX12_init 42 = .ok (.new 32, 3) := by decide +kernel
theorem dX12_init_45 : decode cX12_init 45 = .ok (.dup, 1) := by decide +kernel
theorem dX12_init_46 : decode cX12_init 46 = .ok (.aload_n 0, 1) := by decide +kernel
theorem dX12_init_47 : decode cX12_init 47 = .ok (.getfield 12, 3) := by decide +kernel
theorem dX12_init_50 : decode cX12_init 50 = .ok (.aload_n 0, 1) := by decide +kernel
theorem dX12_init_51 : decode cX12_init 51 = .ok (.getfield 28, 3) := by decide +kernel
theorem dX12_init_54 : decode cX12_init 54 = .ok (.invokespecial 34, 3) := by decide +kernel
theorem dX12_init_57 : decode cX12_init 57 = .ok (.putfield 37, 3) := by decide +kernel
theorem dX12_init_60 : decode cX12_init 60 = .ok (.aload_n 0, 1) := by decide +kernel
theorem dX12_init_61 : decode cX12_init 61 = .ok (.new 41, 3) := by decide +kernel
theorem dX12_init_64 : decode cX12_init 64 = .ok (.dup, 1) := by decide +kernel
theorem dX12_init_65 : decode cX12_init 65 = .ok (.invokespecial 43, 3) := by decide +kernel
theorem dX12_init_68 : decode cX12_init 68 = .ok (.putfield 44, 3) := by decide +kernel
theorem dX12_init_71 : decode cX12_init 71 = .ok (.aload_n 0, 1) := by decide +kernel
theorem dX12_init_72 : decode cX12_init 72 = .ok (.new 48, 3) := by decide +kernel
theorem dX12_init_75 : decode cX12_init 75 = .ok (.dup, 1) := by decide +kernel
theorem dX12_init_76 : decode cX12_init 76 = .ok (.aload_n 0, 1) := by decide +kernel
theorem dX12_init_77 : decode cX12_init 77 = .ok (.getfield 12, 3) := by decide +kernel
theorem dX12_init_80 : decode cX12_init 80 = .ok (.aload_n 0, 1) := by decide +kernel
theorem dX12_init_81 : decode cX12_init 81 = .ok (.getfield 28, 3) := by decide +kernel
theorem dX12_init_84 : decode cX12_init 84 = .ok (.aload_n 0, 1) := by decide +kernel
theorem dX12_init_85 : decode cX12_init 85 = .ok (.getfield 37, 3) := by decide +kernel
theorem dX12_init_88 : decode cX12_init 88 = .ok (.aload_n 0, 1) := by decide +kernel
theorem dX12_init_89 : decode cX12_init 89 = .ok (.getfield 44, 3) := by decide +kernel
theorem dX12_init_92 : decode cX12_init 92 = .ok (.invokespecial 50, 3) := by decide +kernel
theorem dX12_init_95 : decode cX12_init 95 = .ok (.putfield 53, 3) := by decide +kernel
theorem dX12_init_98 : decode cX12_init 98 = .ok (.aload_n 0, 1) := by decide +kernel
theorem dX12_init_99 : decode cX12_init 99 = .ok (.new 57, 3) := by decide +kernel
theorem dX12_init_102 : decode cX12_init 102 = .ok (.dup, 1) := by decide +kernel
theorem dX12_init_103 : decode cX12_init 103 = .ok (.aload_n 0, 1) := by decide +kernel
theorem dX12_init_104 : decode cX12_init 104 = .ok (.getfield 28, 3) := by decide +kernel
theorem dX12_init_107 : decode cX12_init 107 = .ok (.aload_n 0, 1) := by decide +kernel
theorem dX12_init_108 : decode cX12_init 108 = .ok (.getfield 44, 3) := by decide +kernel
theorem dX12_init_111 : decode cX12_init 111 = .ok (.invokespecial 59, 3) := by decide +kernel
theorem dX12_init_114 : decode cX12_init 114 = .ok (.putfield 62, 3) := by decide +kernel
theorem dX12_init_117 : decode cX12_init 117 = .ok (.aload_n 0, 1) := by decide +kernel
theorem dX12_init_118 : decode cX12_init 118 = .ok (.new 66, 3) := by decide +kernel
theorem dX12_init_121 : decode cX12_init 121 = .ok (.dup, 1) := by decide +kernel
theorem dX12_init_122 : decode cX12_init 122 = .ok (.aload_n 0, 1) := by decide +kernel
theorem dX12_init_123 : decode cX12_init 123 = .ok (.getfield 28, 3) := by decide +kernel
theorem dX12_init_126 : decode cX12_init 126 = .ok (.aload_n 0, 1) := by decide +kernel
theorem dX12_init_127 : decode cX12_init 127 = .ok (.getfield 44, 3) := by decide +kernel
theorem dX12_init_130 : decode cX12_init 130 = .ok (.aload_n 0, 1) := by decide +kernel
theorem dX12_init_131 : decode cX12_init 131 = .ok (.getfield 37, 3) := by decide +kernel
theorem dX12_init_134 : decode cX12_init 134 = .ok (.invokespecial 68, 3) := by decide +kernel
theorem dX12_init_137 : decode cX12_init 137 = .ok (.putfield 71, 3) := by decide +kernel
theorem dX12_init_140 : decode cX12_init 140 = .ok (.aload_n 0, 1) := by decide +kernel
theorem dX12_init_141 : decode cX12_init 141 = .ok (.new 75, 3) := by decide +kernel
theorem dX12_init_144 : decode cX12_init 144 = .ok (.dup, 1) := by decide +kernel
theorem dX12_init_145 : decode cX12_init 145 = .ok (.bipush 60, 2) := by decide +kernel
theorem dX12_init_147 : decode cX12_init 147 = .ok (.invokespecial 77, 3) := by decide +kernel
theorem dX12_init_150 : decode cX12_init 150 = .ok (.putfield 80, 3) := by decide +kernel
theorem dX12_init_153 : decode cX12_init 153 = .ok (.aload_n 0, 1) := by decide +kernel
theorem dX12_init_154 : decode cX12_init 154 = .ok (.new 75, 3) := by decide +kernel
theorem dX12_init_157 : decode cX12_init 157 = .ok (.dup, 1) := by decide +kernel
theorem dX12_init_158 : decode cX12_init 158 = .ok (.sipush 4000, 3) := by decide +kernel
theorem dX12_init_161 : decode cX12_init 161 = .ok (.invokespecial 77, 3) := by decide +kernel
theorem dX12_init_164 : decode cX12_init 164 = .ok (.putfield 84, 3) := by decide +kernel
theorem dX12_init_167 : decode cX12_init 167 = .ok (.aload_n 0, 1) := by decide +kernel
theorem dX12_init_168 : decode cX12_init 168 = .ok (.iconst (-1), 1) := by decide +kernel
theorem dX12_init_169 : decode cX12_init 169 = .ok (.putfield 87, 3) := by decide +kernel
theorem dX12_init_172 : decode cX12_init 172 = .ok (.iload_n 1, 1) := by decide +kernel
theorem dX12_init_173 : decode cX12_init 173 = .ok (.bipush 16, 2) := by decide +kernel
theorem dX12_init_175 : decode cX12_init 175 = .ok (.if_icmp .lt 14, 3) := by decide +kernel
theorem dX12_init_178 : decode cX12_init 178 = .ok (.iload_n 1, 1) := by decide +kernel
theorem dX12_init_179 : decode cX12_init 179 = .ok (.sipush 4000, 3) := by decide +kernel
theorem dX12_init_182 : decode cX12_init 182 = .ok (.if_icmp .gt 7, 3) := by decide +kernel
theorem dX12_init_185 : decode cX12_init 185 = .ok (.iload_n 1, 1) := by decide +kernel
theorem dX12_init_186 : decode cX12_init 186 = .ok (.goto 6, 3) := by decide +kernel
theorem dX12_init_189 : decode cX12_init 189 = .ok (.sipush 500, 3) := by decide +kernel
theorem dX12_init_192 : decode cX12_init 192 = .ok (.istore_n 2, 1) := by decide +kernel
theorem dX12_init_193 : decode cX12_init 193 = .ok (.aload_n 0, 1) := by decide +kernel
theorem dX12_init_194 : decode cX12_init 194 = .ok (.new 91, 3) := by decide +kernel
theorem dX12_init_197 : decode cX12_init 197 = .ok (.dup, 1) := by decide +kernel
theorem dX12_init_198 : decode cX12_init 198 = .ok (.aload_n 0, 1) := by decide +kernel
theorem dX12_init_199 : decode cX12_init 199 = .ok (.getfield 28, 3) := by decide +kernel
theorem dX12_init_202 : decode cX12_init 202 = .ok (.aload_n 0, 1) := by decide +kernel
theorem dX12_init_203 : decode cX12_init 203 = .ok (.getfield 84, 3) := by decide +kernel
theorem dX12_init_206 : decode cX12_init 206 = .ok (.iload_n 2, 1) := by decide +kernel
theorem dX12_init_207 : decode cX12_init 207 = .ok (.invokespecial 93, 3) := by decide +kernel
theorem dX12_init_210 : decode cX12_init 210 = .ok (.putfield 96, 3) := by decide +kernel
theorem dX12_init_213 : decode cX12_init 213 = .ok (.aload_n 0, 1) := by decide +kernel
theorem dX12_init_214 : decode cX12_init 214 = .ok (.new 100, 3) := by decide +kernel
theorem dX12_init_217 : decode cX12_init 217 = .ok (.dup, 1) := by decide +kernel
theorem dX12_init_218 : decode cX12_init 218 = .ok (.aload_n 0, 1) := by decide +kernel
theorem dX12_init_219 : decode cX12_init 219 = .ok (.getfield 44, 3) := by decide +kernel
theorem dX12_init_222 : decode cX12_init 222 = .ok (.aload_n 0, 1) := by decide +kernel
theorem dX12_init_223 : decode cX12_init 223 = .ok (.getfield 28, 3) := by decide +kernel
theorem dX12_init_226 : decode cX12_init 226 = .ok (.aload_n 0, 1) := by decide +kernel
theorem dX12_init_227 : decode cX12_init 227 = .ok (.getfield 37, 3) := by decide +kernel
theorem dX12_init_230 : decode cX12_init 230 = .ok (.aload_n 0, 1) := by decide +kernel
theorem dX12_init_231 : decode cX12_init 231 = .ok (.getfield 96, 3) := by decide +kernel
theorem dX12_init_234 : decode cX12_init 234 = .ok (.aload_n 0, 1) := by decide +kernel
theorem dX12_init_235 : decode cX12_init 235 = .ok (.getfield 80, 3) := by decide +kernel
theorem dX12_init_238 : decode cX12_init 238 = .ok (.aload_n 0, 1) := by decide +kernel
theorem dX12_init_239 : decode cX12_init 239 = .ok (.getfield 84, 3) := by decide +kernel
theorem dX12_init_242 : decode cX12_init 242 = .ok (.invokespecial 102, 3) := by decide +kernel
theorem dX12_init_245 : decode cX12_init 245 = .ok (.putfield 105, 3) := by decide +kernel
theorem dX12_init_248 : decode cX12_init 248 = .ok (.return_, 1) := by decide +kernel
theorem dX12_feed_0 : decode cX12_feed 0 = .ok (.aload_n 0, 1) := by decide +kernel
theorem dX12_feed_1 : decode cX12_feed 1 = .ok (.getfield 12, 3) := by decide +kernel
theorem dX12_feed_4 : decode cX12_feed 4 = .ok (.getfield 109, 3) := by decide +kernel
theorem dX12_feed_7 : decode cX12_feed 7 = .ok (.bipush 20, 2) := by decide +kernel
theorem dX12_feed_9 : decode cX12_feed 9 = .ok (.iadd, 1) := by decide +kernel
theorem dX12_feed_10 : decode cX12_feed 10 = .ok (.sipush 3000, 3) := by decide +kernel
theorem dX12_feed_13 : decode cX12_feed 13 = .ok (.if_icmp .le 5, 3) := by decide +kernel
theorem dX12_feed_16 : decode cX12_feed 16 = .ok (.iconst 0, 1) := by decide +kernel
theorem dX12_feed_17 : decode cX12_feed 17 = .ok (.ireturn, 1) := by decide +kernel
theorem dX12_feed_18 : decode cX12_feed 18 = .ok (.aload_n 0, 1) := by decide +kernel
theorem dX12_feed_19 : decode cX12_feed 19 = .ok (.getfield 12, 3) := by decide +kernel
theorem dX12_feed_22 : decode cX12_feed 22 = .ok (.iload_n 1, 1) := by decide +kernel
theorem dX12_feed_23 : decode cX12_feed 23 = .ok (.invokevirtual 112, 3) := by decide +kernel
theorem dX12_feed_26 : decode cX12_feed 26 = .ok (.aload_n 0, 1) := by decide +kernel
theorem dX12_feed_27 : decode cX12_feed 27 = .ok (.getfield 12, 3) := by decide +kernel
theorem dX12_feed_30 : decode cX12_feed 30 = .ok (.iload_n 2, 1) := by decide +kernel
theorem dX12_feed_31 : decode cX12_feed 31 = .ok (.invokevirtual 112, 3) := by decide +kernel
theorem dX12_feed_34 : decode cX12_feed 34 = .ok (.aload_n 0, 1) := by decide +kernel
theorem dX12_feed_35 : decode cX12_feed 35 = .ok (.getfield 12, 3) := by decide +kernel
theorem dX12_feed_38 : decode cX12_feed 38 = .ok (.iload_n 3, 1) := by decide +kernel
theorem dX12_feed_39 : decode cX12_feed 39 = .ok (.invokevirtual 112, 3) := by decide +kernel
theorem dX12_feed_42 : decode cX12_feed 42 = .ok (.aload_n 0, 1) := by decide +kernel
theorem dX12_feed_43 : decode cX12_feed 43 = .ok (.getfield 12, 3) := by decide +kernel
theorem dX12_feed_46 : decode cX12_feed 46 = .ok (.iload 4, 2) := by decide +kernel
theorem dX12_feed_48 : decode cX12_feed 48 = .ok (.invokevirtual 112, 3) := by decide +kernel
theorem dX12_feed_51 : decode cX12_feed 51 = .ok (.aload_n 0, 1) := by decide +kernel
theorem dX12_feed_52 : decode cX12_feed 52 = .ok (.getfield 12, 3) := by decide +kernel
theorem dX12_feed_55 : decode cX12_feed 55 = .ok (.iload 5, 2) := by decide +kernel
theorem dX12_feed_57 : decode cX12_feed 57 = .ok (.invokevirtual 112, 3) := by decide +kernel
theorem dX12_feed_60 : decode cX12_feed 60 = .ok (.iconst 1, 1) := by decide +kernel
theorem dX12_feed_61 : decode cX12_feed 61 = .ok (.ireturn, 1) := by decide +kernel
theorem dX12_input_0 : decode cX12_input 0 = .ok (.aload_n 0, 1) := by decide +kernel
theorem dX12_input_1 : decode cX12_input 1 = .ok (.getfield 80, 3) := by decide +kernel
theorem dX12_input_4 : decode cX12_input 4 = .ok (.lload_n 1, 1) := by decide +kernel
theorem dX12_input_5 : decode cX12_input 5 = .ok (.invokevirtual 115, 3) := by decide +kernel
theorem dX12_input_8 : decode cX12_input 8 = .ok (.ireturn, 1) := by decide +kernel
theorem dX12_run_0 : decode cX12_run 0 = .ok (.iload_n 1, 1) := by decide +kernel
theorem dX12_run_1 : decode cX12_run 1 = .ok (.ifCond .lt 25, 3) := by decide +kernel
theorem dX12_run_4 : decode cX12_run 4 = .ok (.iload_n 1, 1) := by decide +kernel
theorem dX12_run_5 : decode cX12_run 5 = .ok (.aload_n 0, 1) := by decide +kernel
theorem dX12_run_6 : decode cX12_run 6 = .ok (.getfield 12, 3) := by decide +kernel
theorem dX12_run_9 : decode cX12_run 9 = .ok (.getfield 109, 3) := by decide +kernel
theorem dX12_run_12 : decode cX12_run 12 = .ok (.if_icmp .gt 14, 3) := by decide +kernel
theorem dX12_run_15 : decode cX12_run 15 = .ok (.iload_n 2, 1) := by decide +kernel
theorem dX12_run_16 : decode cX12_run 16 = .ok (.ifCond .lt 10, 3) := by decide +kernel
theorem dX12_run_19 : decode cX12_run 19 = .ok (.iload_n 2, 1) := by decide +kernel
theorem dX12_run_20 : decode cX12_run 20 = .ok (.sipush 20000, 3) := by decide +kernel
theorem dX12_run_23 : decode cX12_run 23 = .ok (.if_icmp .le 5, 3) := by decide +kernel
theorem dX12_run_26 : decode cX12_run 26 = .ok (.iconst (-1), 1) := by decide +kernel
theorem dX12_run_27 : decode cX12_run 27 = .ok (.ireturn, 1) := by decide +kernel
theorem dX12_run_28 : decode cX12_run 28 = .ok (.aload_n 0, 1) := by decide +kernel
theorem dX12_run_29 : decode cX12_run 29 = .ok (.getfield 96, 3) := by decide +kernel
theorem dX12_run_32 : decode cX12_run 32 = .ok (.invokevirtual 119, 3) := by decide +kernel
theorem dX12_run_35 : decode cX12_run 35 = .ok (.aload_n 0, 1) := by decide +kernel
theorem dX12_run_36 : decode cX12_run 36 = .ok (.iload_n 1, 1) := by decide +kernel
theorem dX12_run_37 : decode cX12_run 37 = .ok (.invokevirtual 122, 3) := by decide +kernel
theorem dX12_run_40 : decode cX12_run 40 = .ok (.aload_n 0, 1) := by decide +kernel
theorem dX12_run_41 : decode cX12_run 41 = .ok (.getfield 12, 3) := by decide +kernel
theorem dX12_run_44 : decode cX12_run 44 = .ok (.iconst 0, 1) := by decide +kernel
theorem dX12_run_45 : decode cX12_run 45 = .ok (.putfield 109, 3) := by decide +kernel
theorem dX12_run_48 : decode cX12_run 48 = .ok (.aload_n 0, 1) := by decide +kernel
theorem dX12_run_49 : decode cX12_run 49 = .ok (.aload_n 0, 1) := by decide +kernel
theorem dX12_run_50 : decode cX12_run 50 = .ok (.getfield 12, 3) := by decide +kernel
theorem dX12_run_53 : decode cX12_run 53 = .ok (.getfield 125, 3) := by decide +kernel
theorem dX12_run_56 : decode cX12_run 56 = .ok (.putfield 87, 3) := by decide +kernel
theorem dX12_run_59 : decode cX12_run 59 = .ok (.aload_n 0, 1) := by decide +kernel
theorem dX12_run_60 : decode cX12_run 60 = .ok (.iload_n 2, 1) := by decide +kernel
theorem dX12_run_61 : decode cX12_run 61 = .ok (.putfield 128, 3) := by decide +kernel
theorem dX12_run_64 : decode cX12_run 64 = .ok (.aload_n 0, 1) := by decide +kernel
theorem dX12_run_65 : decode cX12_run 65 = .ok (.getfield 12, 3) := by decide +kernel
theorem dX12_run_68 : decode cX12_run 68 = .ok (.getfield 131, 3) := by decide +kernel
theorem dX12_run_71 : decode cX12_run 71 = .ok (.ifCond .eq 11, 3) := by decide +kernel
theorem dX12_run_74 : decode cX12_run 74 = .ok (.aload_n 0, 1) := by decide +kernel
theorem dX12_run_75 : decode cX12_run 75 = .ok (.getfield 12, 3) := by decide +kernel
theorem dX12_run_78 : decode cX12_run 78 = .ok (.getfield 131, 3) := by decide +kernel
theorem dX12_run_81 : decode cX12_run 81 = .ok (.ireturn, 1) := by decide +kernel
theorem dX12_run_82 : decode cX12_run 82 = .ok (.aload_n 0, 1) := by decide +kernel
theorem dX12_run_83 : decode cX12_run 83 = .ok (.getfield 105, 3) := by decide +kernel
theorem dX12_run_86 : decode cX12_run 86 = .ok (.aload_n 0, 1) := by decide +kernel
theorem dX12_run_87 : decode cX12_run 87 = .ok (.getfield 37, 3) := by decide +kernel
theorem dX12_run_90 : decode cX12_run 90 = .ok (.getfield 134, 3) := by decide +kernel
theorem dX12_run_93 : decode cX12_run 93 = .ok (.iload_n 2, 1) := by decide +kernel
theorem dX12_run_94 : decode cX12_run 94 = .ok (.invokevirtual 137, 3) := by decide +kernel
theorem dX12_run_97 : decode cX12_run 97 = .ok (.istore_n 3, 1) := by decide +kernel
theorem dX12_run_98 : decode cX12_run 98 = .ok (.aload_n 0, 1) := by decide +kernel
theorem dX12_run_99 : decode cX12_run 99 = .ok (.aload_n 0, 1) := by decide +kernel
theorem dX12_run_100 : decode cX12_run 100 = .ok (.getfield 105, 3) := by decide +kernel
theorem dX12_run_103 : decode cX12_run 103 = .ok (.getfield 141, 3) := by decide +kernel
theorem dX12_run_106 : decode cX12_run 106 = .ok (.putfield 128, 3) := by decide +kernel
theorem dX12_run_109 : decode cX12_run 109 = .ok (.iload_n 3, 1) := by decide +kernel
theorem dX12_run_110 : decode cX12_run 110 = .ok (.ireturn, 1) := by decide +kernel
theorem dX12_place_0 : decode cX12_place 0 = .ok (.aload_n 0, 1) := by decide +kernel
theorem dX12_place_1 : decode cX12_place 1 = .ok (.getfield 87, 3) := by decide +kernel
theorem dX12_place_4 : decode cX12_place 4 = .ok (.ireturn, 1) := by decide +kernel
theorem dX12_fetch_0 : decode cX12_fetch 0 = .ok (.aload_n 0, 1) := by decide +kernel
theorem dX12_fetch_1 : decode cX12_fetch 1 = .ok (.getfield 84, 3) := by decide +kernel
theorem dX12_fetch_4 : decode cX12_fetch 4 = .ok (.getfield 144, 3) := by decide +kernel
theorem dX12_fetch_7 : decode cX12_fetch 7 = .ok (.bipush 7, 2) := by decide +kernel
theorem dX12_fetch_9 : decode cX12_fetch 9 = .ok (.invokestatic 147, 3) := by decide +kernel
theorem dX12_fetch_12 : decode cX12_fetch 12 = .ok (.istore_n 1, 1) := by decide +kernel
theorem dX12_fetch_13 : decode cX12_fetch 13 = .ok (.iload_n 1, 1) := by decide +kernel
theorem dX12_fetch_14 : decode cX12_fetch 14 = .ok (.i2l, 1) := by decide +kernel
theorem dX12_fetch_15 : decode cX12_fetch 15 = .ok (.lstore_n 2, 1) := by decide +kernel
theorem dX12_fetch_16 : decode cX12_fetch 16 = .ok (.iconst 0, 1) := by decide +kernel
theorem dX12_fetch_17 : decode cX12_fetch 17 = .ok (.istore 4, 2) := by decide +kernel
theorem dX12_fetch_19 : decode cX12_fetch 19 = .ok (.iload 4, 2) := by decide +kernel
theorem dX12_fetch_21 : decode cX12_fetch 21 = .ok (.bipush 7, 2) := by decide +kernel
theorem dX12_fetch_23 : decode cX12_fetch 23 = .ok (.if_icmp .ge 32, 3) := by decide +kernel
theorem dX12_fetch_26 : decode cX12_fetch 26 = .ok (.lload_n 2, 1) := by decide +kernel
theorem dX12_fetch_27 : decode cX12_fetch 27 = .ok (.bipush 8, 2) := by decide +kernel
theorem dX12_fetch_29 : decode cX12_fetch 29 = .ok (.lshl, 1) := by decide +kernel
theorem dX12_fetch_30 : decode cX12_fetch 30 = .ok (.iload 4, 2) := by decide +kernel
theorem dX12_fetch_32 : decode cX12_fetch 32 = .ok (.iload_n 1, 1) := by decide +kernel
theorem dX12_fetch_33 : decode cX12_fetch 33 = .ok (.if_icmp .ge 13, 3) := by decide +kernel
theorem dX12_fetch_36 : decode cX12_fetch 36 = .ok (.aload_n 0, 1) := by decide +kernel
theorem dX12_fetch_37 : decode cX12_fetch 37 = .ok (.getfield 84, 3) := by decide +kernel
theorem dX12_fetch_40 : decode cX12_fetch 40 = .ok (.invokevirtual 152, 3) := by decide +kernel
theorem dX12_fetch_43 : decode cX12_fetch 43 = .ok (.goto 4, 3) := by decide +kernel
theorem dX12_fetch_46 : decode cX12_fetch 46 = .ok (.lconst 0, 1) := by decide +kernel
theorem dX12_fetch_47 : decode cX12_fetch 47 = .ok (.lor, 1) := by decide +kernel
theorem dX12_fetch_48 : decode cX12_fetch 48 = .ok (.lstore_n 2, 1) := by decide +kernel
theorem dX12_fetch_49 : decode cX12_fetch 49 = .ok (.iinc 4 1, 3) := by decide +kernel
theorem dX12_fetch_52 : decode cX12_fetch 52 = .ok (.goto (-33), 3) := by decide +kernel
theorem dX12_fetch_55 : decode cX12_fetch 55 = .ok (.lload_n 2, 1) := by decide +kernel
theorem dX12_fetch_56 : decode cX12_fetch 56 = .ok (.lreturn, 1) := by decide +kernel
theorem dX12_count_0 : decode cX12_count 0 = .ok (.iload_n 1, 1) := by decide +kernel
theorem dX12_count_1 : decode cX12_count 1 = .ok (.tableswitch 84 0 5 #[39, 44, 52, 60, 68, 76], 39) := by decide +kernel
theorem dX12_count_40 : decode cX12_count 40 = .ok (.aload_n 0, 1) := by decide +kernel
theorem dX12_count_41 : decode cX12_count 41 = .ok (.getfield 128, 3) := by decide +kernel
theorem dX12_count_44 : decode cX12_count 44 = .ok (.ireturn, 1) := by decide +kernel
theorem dX12_count_45 : decode cX12_count 45 = .ok (.aload_n 0, 1) := by decide +kernel
theorem dX12_count_46 : decode cX12_count 46 = .ok (.getfield 96, 3) := by decide +kernel
theorem dX12_count_49 : decode cX12_count 49 = .ok (.getfield 156, 3) := by decide +kernel
theorem dX12_count_52 : decode cX12_count 52 = .ok (.ireturn, 1) := by decide +kernel
theorem dX12_count_53 : decode cX12_count 53 = .ok (.aload_n 0, 1) := by decide +kernel
theorem dX12_count_54 : decode cX12_count 54 = .ok (.getfield 96, 3) := by decide +kernel
theorem dX12_count_57 : decode cX12_count 57 = .ok (.getfield 159, 3) := by decide +kernel
theorem dX12_count_60 : decode cX12_count 60 = .ok (.ireturn, 1) := by decide +kernel
theorem dX12_count_61 : decode cX12_count 61 = .ok (.aload_n 0, 1) := by decide +kernel
theorem dX12_count_62 : decode cX12_count 62 = .ok (.getfield 12, 3) := by decide +kernel
theorem dX12_count_65 : decode cX12_count 65 = .ok (.getfield 109, 3) := by decide +kernel
theorem dX12_count_68 : decode cX12_count 68 = .ok (.ireturn, 1) := by decide +kernel
theorem dX12_count_69 : decode cX12_count 69 = .ok (.aload_n 0, 1) := by decide +kernel
theorem dX12_count_70 : decode cX12_count 70 = .ok (.getfield 84, 3) := by decide +kernel
theorem dX12_count_73 : decode cX12_count 73 = .ok (.getfield 144, 3) := by decide +kernel
theorem dX12_count_76 : decode cX12_count 76 = .ok (.ireturn, 1) := by decide +kernel
theorem dX12_count_77 : decode cX12_count 77 = .ok (.aload_n 0, 1) := by decide +kernel
theorem dX12_count_78 : decode cX12_count 78 = .ok (.getfield 80, 3) := by decide +kernel
theorem dX12_count_81 : decode cX12_count 81 = .ok (.getfield 144, 3) := by decide +kernel
theorem dX12_count_84 : decode cX12_count 84 = .ok (.ireturn, 1) := by decide +kernel
theorem dX12_count_85 : decode cX12_count 85 = .ok (.iconst (-1), 1) := by decide +kernel
theorem dX12_count_86 : decode cX12_count 86 = .ok (.ireturn, 1) := by decide +kernel
theorem dX12_lookOver_0 : decode cX12_lookOver 0 = .ok (.aload_n 0, 1) := by decide +kernel
theorem dX12_lookOver_1 : decode cX12_lookOver 1 = .ok (.getfield 12, 3) := by decide +kernel
theorem dX12_lookOver_4 : decode cX12_lookOver 4 = .ok (.iload_n 1, 1) := by decide +kernel
theorem dX12_lookOver_5 : decode cX12_lookOver 5 = .ok (.invokevirtual 162, 3) := by decide +kernel
theorem dX12_lookOver_8 : decode cX12_lookOver 8 = .ok (.aload_n 0, 1) := by decide +kernel
theorem dX12_lookOver_9 : decode cX12_lookOver 9 = .ok (.getfield 21, 3) := by decide +kernel
theorem dX12_lookOver_12 : decode cX12_lookOver 12 = .ok (.invokevirtual 165, 3) := by decide +kernel
theorem dX12_lookOver_15 : decode cX12_lookOver 15 = .ok (.aload_n 0, 1) := by decide +kernel
theorem dX12_lookOver_16 : decode cX12_lookOver 16 = .ok (.getfield 12, 3) := by decide +kernel
theorem dX12_lookOver_19 : decode cX12_lookOver 19 = .ok (.getfield 131, 3) := by decide +kernel
theorem dX12_lookOver_22 : decode cX12_lookOver 22 = .ok (.ifCond .ne 14, 3) := by decide +kernel
theorem dX12_lookOver_25 : decode cX12_lookOver 25 = .ok (.aload_n 0, 1) := by decide +kernel
theorem dX12_lookOver_26 : decode cX12_lookOver 26 = .ok (.getfield 37, 3) := by decide +kernel
theorem dX12_lookOver_29 : decode cX12_lookOver 29 = .ok (.aload_n 0, 1) := by decide +kernel
theorem dX12_lookOver_30 : decode cX12_lookOver 30 = .ok (.getfield 21, 3) := by decide +kernel
theorem dX12_lookOver_33 : decode cX12_lookOver 33 = .ok (.invokevirtual 168, 3) := by decide +kernel
theorem dX12_lookOver_36 : decode cX12_lookOver 36 = .ok (.aload_n 0, 1) := by decide +kernel
theorem dX12_lookOver_37 : decode cX12_lookOver 37 = .ok (.getfield 12, 3) := by decide +kernel
theorem dX12_lookOver_40 : decode cX12_lookOver 40 = .ok (.getfield 131, 3) := by decide +kernel
theorem dX12_lookOver_43 : decode cX12_lookOver 43 = .ok (.ifCond .ne 10, 3) := by decide +kernel
theorem dX12_lookOver_46 : decode cX12_lookOver 46 = .ok (.aload_n 0, 1) := by decide +kernel
theorem dX12_lookOver_47 : decode cX12_lookOver 47 = .ok (.getfield 53, 3) := by decide +kernel
theorem dX12_lookOver_50 : decode cX12_lookOver 50 = .ok (.invokevirtual 171, 3) := by decide +kernel
theorem dX12_lookOver_53 : decode cX12_lookOver 53 = .ok (.iconst 0, 1) := by decide +kernel
theorem dX12_lookOver_54 : decode cX12_lookOver 54 = .ok (.istore_n 2, 1) := by decide +kernel
theorem dX12_lookOver_55 : decode cX12_lookOver 55 = .ok (.iload_n 2, 1) := by decide +kernel
theorem dX12_lookOver_56 : decode cX12_lookOver 56 = .ok (.aload_n 0, 1) := by decide +kernel
theorem dX12_lookOver_57 : decode cX12_lookOver 57 = .ok (.getfield 37, 3) := by decide +kernel
theorem dX12_lookOver_60 : decode cX12_lookOver 60 = .ok (.getfield 172, 3) := by decide +kernel
theorem dX12_lookOver_63 : decode cX12_lookOver 63 = .ok (.if_icmp .ge 94, 3) := by decide +kernel
theorem dX12_lookOver_66 : decode cX12_lookOver 66 = .ok (.aload_n 0, 1) := by decide +kernel
theorem dX12_lookOver_67 : decode cX12_lookOver 67 = .ok (.getfield 12, 3) := by decide +kernel
theorem dX12_lookOver_70 : decode cX12_lookOver 70 = .ok (.getfield 131, 3) := by decide +kernel
theorem dX12_lookOver_73 : decode cX12_lookOver 73 = .ok (.ifCond .ne 84, 3) := by decide +kernel
theorem dX12_lookOver_76 : decode cX12_lookOver 76 = .ok (.aload_n 0, 1) := by decide +kernel
theorem dX12_lookOver_77 : decode cX12_lookOver 77 = .ok (.getfield 62, 3) := by decide +kernel
theorem dX12_lookOver_80 : decode cX12_lookOver 80 = .ok (.aload_n 0, 1) := by decide +kernel
theorem dX12_lookOver_81 : decode cX12_lookOver 81 = .ok (.getfield 37, 3) := by decide +kernel
theorem dX12_lookOver_84 : decode cX12_lookOver 84 = .ok (.getfield 175, 3) := by decide +kernel
theorem dX12_lookOver_87 : decode cX12_lookOver 87 = .ok (.iload_n 2, 1) := by decide +kernel
theorem dX12_lookOver_88 : decode cX12_lookOver 88 = .ok (.aaload, 1) := by decide +kernel
theorem dX12_lookOver_89 : decode cX12_lookOver 89 = .ok (.invokevirtual 179, 3) := by decide +kernel
theorem dX12_lookOver_92 : decode cX12_lookOver 92 = .ok (.istore_n 3, 1) := by decide +kernel
theorem dX12_lookOver_93 : decode cX12_lookOver 93 = .ok (.iload_n 3, 1) := by decide +kernel
theorem dX12_lookOver_94 : decode cX12_lookOver 94 = .ok (.ifCond .lt 7, 3) := by decide +kernel
theorem dX12_lookOver_97 : decode cX12_lookOver 97 = .ok (.iconst (-1), 1) := by decide +kernel
theorem dX12_lookOver_98 : decode cX12_lookOver 98 = .ok (.goto 19, 3) := by decide +kernel
theorem dX12_lookOver_101 : decode cX12_lookOver 101 = .ok (.aload_n 0, 1) := by decide +kernel
theorem dX12_lookOver_102 : decode cX12_lookOver 102 = .ok (.getfield 71, 3) := by decide +kernel
theorem dX12_lookOver_105 : decode cX12_lookOver 105 = .ok (.aload_n 0, 1) := by decide +kernel
theorem dX12_lookOver_106 : decode cX12_lookOver 106 = .ok (.getfield 37, 3) := by decide +kernel
theorem dX12_lookOver_109 : decode cX12_lookOver 109 = .ok (.getfield 175, 3) := by decide +kernel
theorem dX12_lookOver_112 : decode cX12_lookOver 112 = .ok (.iload_n 2, 1) := by decide +kernel
theorem dX12_lookOver_113 : decode cX12_lookOver 113 = .ok (.aaload, 1) := by decide +kernel
theorem dX12_lookOver_114 : decode cX12_lookOver 114 = .ok (.invokevirtual 183, 3) := by decide +kernel
theorem dX12_lookOver_117 : decode cX12_lookOver 117 = .ok (.istore 4, 2) := by decide +kernel
theorem dX12_lookOver_119 : decode cX12_lookOver 119 = .ok (.iload_n 3, 1) := by decide +kernel
theorem dX12_lookOver_120 : decode cX12_lookOver 120 = .ok (.ifCond .lt 15, 3) := by decide +kernel
theorem dX12_lookOver_123 : decode cX12_lookOver 123 = .ok (.aload_n 0, 1) := by decide +kernel
theorem dX12_lookOver_124 : decode cX12_lookOver 124 = .ok (.getfield 12, 3) := by decide +kernel
theorem dX12_lookOver_127 : decode cX12_lookOver 127 = .ok (.iconst 5, 1) := by decide +kernel
theorem dX12_lookOver_128 : decode cX12_lookOver 128 = .ok (.iload_n 3, 1) := by decide +kernel
theorem dX12_lookOver_129 : decode cX12_lookOver 129 = .ok (.invokevirtual 184, 3) := by decide +kernel
theorem dX12_lookOver_132 : decode cX12_lookOver 132 = .ok (.goto 19, 3) := by decide +kernel
theorem dX12_lookOver_135 : decode cX12_lookOver 135 = .ok (.iload 4, 2) := by decide +kernel
theorem dX12_lookOver_137 : decode cX12_lookOver 137 = .ok (.ifCond .lt 14, 3) := by decide +kernel
theorem dX12_lookOver_140 : decode cX12_lookOver 140 = .ok (.aload_n 0, 1) := by decide +kernel
theorem dX12_lookOver_141 : decode cX12_lookOver 141 = .ok (.getfield 12, 3) := by decide +kernel
theorem dX12_lookOver_144 : decode cX12_lookOver 144 = .ok (.bipush 6, 2) := by decide +kernel
theorem dX12_lookOver_146 : decode cX12_lookOver 146 = .ok (.iload 4, 2) := by decide +kernel
theorem dX12_lookOver_148 : decode cX12_lookOver 148 = .ok (.invokevirtual 184, 3) := by decide +kernel
theorem dX12_lookOver_151 : decode cX12_lookOver 151 = .ok (.iinc 2 1, 3) := by decide +kernel
theorem dX12_lookOver_154 : decode cX12_lookOver 154 = .ok (.goto (-99), 3) := by decide +kernel
theorem dX12_lookOver_157 : decode cX12_lookOver 157 = .ok (.return_, 1) := by decide +kernel
theorem dX9_init_0 : decode cX9_init 0 = .ok (.aload_n 0, 1) := by decide +kernel
theorem dX9_init_1 : decode cX9_init 1 = .ok (.invokespecial 3, 3) := by decide +kernel
theorem dX9_init_4 : decode cX9_init 4 = .ok (.aload_n 0, 1) := by decide +kernel
theorem dX9_init_5 : decode cX9_init 5 = .ok (.sipush 3002, 3) := by decide +kernel
theorem dX9_init_8 : decode cX9_init 8 = .ok (.newarray .int, 2) := by decide +kernel
theorem dX9_init_10 : decode cX9_init 10 = .ok (.putfield 9, 3) := by decide +kernel
theorem dX9_init_13 : decode cX9_init 13 = .ok (.aload_n 0, 1) := by decide +kernel
theorem dX9_init_14 : decode cX9_init 14 = .ok (.sipush 3002, 3) := by decide +kernel
theorem dX9_init_17 : decode cX9_init 17 = .ok (.newarray .int, 2) := by decide +kernel
theorem dX9_init_19 : decode cX9_init 19 = .ok (.putfield 15, 3) := by decide +kernel
theorem dX9_init_22 : decode cX9_init 22 = .ok (.aload_n 0, 1) := by decide +kernel
theorem dX9_init_23 : decode cX9_init 23 = .ok (.sipush 3002, 3) := by decide +kernel
theorem dX9_init_26 : decode cX9_init 26 = .ok (.newarray .int, 2) := by decide +kernel
theorem dX9_init_28 : decode cX9_init 28 = .ok (.putfield 18, 3) := by decide +kernel
theorem dX9_init_31 : decode cX9_init 31 = .ok (.aload_n 0, 1) := by decide +kernel
theorem dX9_init_32 : decode cX9_init 32 = .ok (.sipush 3002, 3) := by decide +kernel
theorem dX9_init_35 : decode cX9_init 35 = .ok (.newarray .long, 2) := by decide +kernel
theorem dX9_init_37 : decode cX9_init 37 = .ok (.putfield 21, 3) := by decide +kernel
theorem dX9_init_40 : decode cX9_init 40 = .ok (.aload_n 0, 1) := by decide +kernel
theorem dX9_init_41 : decode cX9_init 41 = .ok (.sipush 3002, 3) := by decide +kernel
theorem dX9_init_44 : decode cX9_init 44 = .ok (.newarray .int, 2) := by decide +kernel
theorem dX9_init_46 : decode cX9_init 46 = .ok (.putfield 25, 3) := by decide +kernel
theorem dX9_init_49 : decode cX9_init 49 = .ok (.aload_n 0, 1) := by decide +kernel
theorem dX9_init_50 : decode cX9_init 50 = .ok (.iconst (-1), 1) := by decide +kernel
theorem dX9_init_51 : decode cX9_init 51 = .ok (.putfield 28, 3) := by decide +kernel
theorem dX9_init_54 : decode cX9_init 54 = .ok (.aload_n 0, 1) := by decide +kernel
theorem dX9_init_55 : decode cX9_init 55 = .ok (.sipush 3000, 3) := by decide +kernel
theorem dX9_init_58 : decode cX9_init 58 = .ok (.newarray .byte, 2) := by decide +kernel
theorem dX9_init_60 : decode cX9_init 60 = .ok (.putfield 32, 3) := by decide +kernel
theorem dX9_init_63 : decode cX9_init 63 = .ok (.aload_n 0, 1) := by decide +kernel
theorem dX9_init_64 : decode cX9_init 64 = .ok (.sipush 3120, 3) := by decide +kernel
theorem dX9_init_67 : decode cX9_init 67 = .ok (.newarray .byte, 2) := by decide +kernel
theorem dX9_init_69 : decode cX9_init 69 = .ok (.putfield 36, 3) := by decide +kernel
theorem dX9_init_72 : decode cX9_init 72 = .ok (.aload_n 0, 1) := by decide +kernel
theorem dX9_init_73 : decode cX9_init 73 = .ok (.sipush 3020, 3) := by decide +kernel
theorem dX9_init_76 : decode cX9_init 76 = .ok (.newarray .int, 2) := by decide +kernel
theorem dX9_init_78 : decode cX9_init 78 = .ok (.putfield 39, 3) := by decide +kernel
theorem dX9_init_81 : decode cX9_init 81 = .ok (.aload_n 0, 1) := by decide +kernel
theorem dX9_init_82 : decode cX9_init 82 = .ok (.sipush 3020, 3) := by decide +kernel
theorem dX9_init_85 : decode cX9_init 85 = .ok (.newarray .int, 2) := by decide +kernel
theorem dX9_init_87 : decode cX9_init 87 = .ok (.putfield 42, 3) := by decide +kernel
theorem dX9_init_90 : decode cX9_init 90 = .ok (.aload_n 0, 1) := by decide +kernel
theorem dX9_init_91 : decode cX9_init 91 = .ok (.sipush 3020, 3) := by decide +kernel
theorem dX9_init_94 : decode cX9_init 94 = .ok (.newarray .int, 2) := by decide +kernel
theorem dX9_init_96 : decode cX9_init 96 = .ok (.putfield 45, 3) := by decide +kernel
theorem dX9_init_99 : decode cX9_init 99 = .ok (.aload_n 0, 1) := by decide +kernel
theorem dX9_init_100 : decode cX9_init 100 = .ok (.sipush 256, 3) := by decide +kernel
theorem dX9_init_103 : decode cX9_init 103 = .ok (.newarray .int, 2) := by decide +kernel
theorem dX9_init_105 : decode cX9_init 105 = .ok (.putfield 48, 3) := by decide +kernel
theorem dX9_init_108 : decode cX9_init 108 = .ok (.aload_n 0, 1) := by decide +kernel
theorem dX9_init_109 : decode cX9_init 109 = .ok (.getfield 48, 3) := by decide +kernel
theorem dX9_init_112 : decode cX9_init 112 = .ok (.iconst (-1), 1) := by decide +kernel
theorem dX9_init_113 : decode cX9_init 113 = .ok (.invokestatic 51, 3) := by decide +kernel
theorem dX9_init_116 : decode cX9_init 116 = .ok (.ldc 57, 2) := by decide +kernel
theorem dX9_init_118 : decode cX9_init 118 = .ok (.invokevirtual 59, 3) := by decide +kernel
theorem dX9_init_121 : decode cX9_init 121 = .ok (.newarray .byte, 2) := by decide +kernel
theorem dX9_init_123 : decode cX9_init 123 = .ok (.astore_n 1, 1) := by decide +kernel
theorem dX9_init_124 : decode cX9_init 124 = .ok (.iconst 0, 1) := by decide +kernel
theorem dX9_init_125 : decode cX9_init 125 = .ok (.istore_n 2, 1) := by decide +kernel
theorem dX9_init_126 : decode cX9_init 126 = .ok (.iconst 0, 1) := by decide +kernel
theorem dX9_init_127 : decode cX9_init 127 = .ok (.istore_n 3, 1) := by decide +kernel
theorem dX9_init_128 : decode cX9_init 128 = .ok (.iload_n 3, 1) := by decide +kernel
theorem dX9_init_129 : decode cX9_init 129 = .ok (.aload_n 1, 1) := by decide +kernel
theorem dX9_init_130 : decode cX9_init 130 = .ok (.arraylength, 1) := by decide +kernel
theorem dX9_init_131 : decode cX9_init 131 = .ok (.if_icmp .ge 41, 3) := by decide +kernel
theorem dX9_init_134 : decode cX9_init 134 = .ok (.aload_n 1, 1) := by decide +kernel
theorem dX9_init_135 : decode cX9_init 135 = .ok (.iload_n 3, 1) := by decide +kernel
theorem dX9_init_136 : decode cX9_init 136 = .ok (.ldc 57, 2) := by decide +kernel
theorem dX9_init_138 : decode cX9_init 138 = .ok (.iload_n 3, 1) := by decide +kernel
theorem dX9_init_139 : decode cX9_init 139 = .ok (.invokevirtual 65, 3) := by decide +kernel
theorem dX9_init_142 : decode cX9_init 142 = .ok (.i2b, 1) := by decide +kernel
theorem dX9_init_143 : decode cX9_init 143 = .ok (.bastore, 1) := by decide +kernel
theorem dX9_init_144 : decode cX9_init 144 = .ok (.aload_n 1, 1) := by decide +kernel
theorem dX9_init_145 : decode cX9_init 145 = .ok (.iload_n 3, 1) := by decide +kernel
theorem dX9_init_146 : decode cX9_init 146 = .ok (.baload, 1) := by decide +kernel
theorem dX9_init_147 : decode cX9_init 147 = .ok (.bipush 32, 2) := by decide +kernel
theorem dX9_init_149 : decode cX9_init 149 = .ok (.if_icmp .ne 17, 3) := by decide +kernel
theorem dX9_init_152 : decode cX9_init 152 = .ok (.aload_n 0, 1) := by decide +kernel
theorem dX9_init_153 : decode cX9_init 153 = .ok (.aload_n 1, 1) := by decide +kernel
theorem dX9_init_154 : decode cX9_init 154 = .ok (.iload_n 2, 1) := by decide +kernel
theorem dX9_init_155 : decode cX9_init 155 = .ok (.iload_n 3, 1) := by decide +kernel
theorem dX9_init_156 : decode cX9_init 156 = .ok (.iload_n 2, 1) := by decide +kernel
theorem dX9_init_157 : decode cX9_init 157 = .ok (.isub, 1) := by decide +kernel
theorem dX9_init_158 : decode cX9_init 158 = .ok (.invokevirtual 69, 3) := by decide +kernel
theorem dX9_init_161 : decode cX9_init 161 = .ok (.pop, 1) := by decide +kernel
theorem dX9_init_162 : decode cX9_init 162 = .ok (.iload_n 3, 1) := by decide +kernel
theorem dX9_init_163 : decode cX9_init 163 = .ok (.iconst 1, 1) := by decide +kernel
theorem dX9_init_164 : decode cX9_init 164 = .ok (.iadd, 1) := by decide +kernel
theorem dX9_init_165 : decode cX9_init 165 = .ok (.istore_n 2, 1) := by decide +kernel
theorem dX9_init_166 : decode cX9_init 166 = .ok (.iinc 3 1, 3) := by decide +kernel
theorem dX9_init_169 : decode cX9_init 169 = .ok (.goto (-41), 3) := by decide +kernel
theorem dX9_init_172 : decode cX9_init 172 = .ok (.aload_n 0, 1) := by decide +kernel
theorem dX9_init_173 : decode cX9_init 173 = .ok (.aload_n 0, 1) := by decide +kernel
theorem dX9_init_174 : decode cX9_init 174 = .ok (.getfield 48, 3) := by decide +kernel
theorem dX9_init_177 : decode cX9_init 177 = .ok (.invokevirtual 73, 3) := by decide +kernel
theorem dX9_init_180 : decode cX9_init 180 = .ok (.checkcast 74, 3) := by decide +kernel
theorem dX9_init_183 : decode cX9_init 183 = .ok (.putfield 78, 3) := by decide +kernel
theorem dX9_init_186 : decode cX9_init 186 = .ok (.return_, 1) := by decide +kernel
theorem dX9_append_0 : decode cX9_append 0 = .ok (.bipush 24, 2) := by decide +kernel
theorem dX9_append_2 : decode cX9_append 2 = .ok (.istore_n 2, 1) := by decide +kernel
theorem dX9_append_3 : decode cX9_append 3 = .ok (.iload_n 2, 1) := by decide +kernel
theorem dX9_append_4 : decode cX9_append 4 = .ok (.ifCond .lt 32, 3) := by decide +kernel
theorem dX9_append_7 : decode cX9_append 7 = .ok (.aload_n 0, 1) := by decide +kernel
theorem dX9_append_8 : decode cX9_append 8 = .ok (.getfield 32, 3) := by decide +kernel
theorem dX9_append_11 : decode cX9_append 11 = .ok (.aload_n 0, 1) := by decide +kernel
theorem dX9_append_12 : decode cX9_append 12 = .ok (.getfield 81, 3) := by decide +kernel
theorem dX9_append_15 : decode cX9_append 15 = .ok (.iload_n 1, 1) := by decide +kernel
theorem dX9_append_16 : decode cX9_append 16 = .ok (.iload_n 2, 1) := by decide +kernel
theorem dX9_append_17 : decode cX9_append 17 = .ok (.ishr, 1) := by decide +kernel
theorem dX9_append_18 : decode cX9_append 18 = .ok (.i2b, 1) := by decide +kernel
theorem dX9_append_19 : decode cX9_append 19 = .ok (.bastore, 1) := by decide +kernel
theorem dX9_append_20 : decode cX9_append 20 = .ok (.aload_n 0, 1) := by decide +kernel
theorem dX9_append_21 : decode cX9_append 21 = .ok (.dup, 1) := by decide +kernel
theorem dX9_append_22 : decode cX9_append 22 = .ok (.getfield 81, 3) := by decide +kernel
theorem dX9_append_25 : decode cX9_append 25 = .ok (.iconst 1, 1) := by decide +kernel
theorem dX9_append_26 : decode cX9_append 26 = .ok (.iadd, 1) := by decide +kernel
theorem dX9_append_27 : decode cX9_append 27 = .ok (.putfield 81, 3) := by decide +kernel
theorem dX9_append_30 : decode cX9_append 30 = .ok (.iinc 2 (-8), 3) := by decide +kernel
theorem dX9_append_33 : decode cX9_append 33 = .ok (.goto (-30), 3) := by decide +kernel
theorem dX9_append_36 : decode cX9_append 36 = .ok (.return_, 1) := by decide +kernel
theorem dX9_read_0 : decode cX9_read 0 = .ok (.aload_n 0, 1) := by decide +kernel
theorem dX9_read_1 : decode cX9_read 1 = .ok (.getfield 78, 3) := by decide +kernel
theorem dX9_read_4 : decode cX9_read 4 = .ok (.iconst 0, 1) := by decide +kernel
theorem dX9_read_5 : decode cX9_read 5 = .ok (.aload_n 0, 1) := by decide +kernel
theorem dX9_read_6 : decode cX9_read 6 = .ok (.getfield 48, 3) := by decide +kernel
theorem dX9_read_9 : decode cX9_read 9 = .ok (.iconst 0, 1) := by decide +kernel
theorem dX9_read_10 : decode cX9_read 10 = .ok (.sipush 256, 3) := by decide +kernel
theorem dX9_read_13 : decode cX9_read 13 = .ok (.invokestatic 83, 3) := by decide +kernel
theorem dX9_read_16 : decode cX9_read 16 = .ok (.aload_n 0, 1) := by decide +kernel
theorem dX9_read_17 : decode cX9_read 17 = .ok (.bipush 20, 2) := by decide +kernel
theorem dX9_read_19 : decode cX9_read 19 = .ok (.putfield 89, 3) := by decide +kernel
theorem dX9_read_22 : decode cX9_read 22 = .ok (.aload_n 0, 1) := by decide +kernel
theorem dX9_read_23 : decode cX9_read 23 = .ok (.iconst 0, 1) := by decide +kernel
theorem dX9_read_24 : decode cX9_read 24 = .ok (.putfield 92, 3) := by decide +kernel
theorem dX9_read_27 : decode cX9_read 27 = .ok (.aload_n 0, 1) := by decide +kernel
theorem dX9_read_28 : decode cX9_read 28 = .ok (.iconst 0, 1) := by decide +kernel
theorem dX9_read_29 : decode cX9_read 29 = .ok (.putfield 95, 3) := by decide +kernel
theorem dX9_read_32 : decode cX9_read 32 = .ok (.aload_n 0, 1) := by decide +kernel
theorem dX9_read_33 : decode cX9_read 33 = .ok (.iconst (-1), 1) := by decide +kernel
theorem dX9_read_34 : decode cX9_read 34 = .ok (.putfield 28, 3) := by decide +kernel
theorem dX9_read_37 : decode cX9_read 37 = .ok (.iconst 0, 1) := by decide +kernel
theorem dX9_read_38 : decode cX9_read 38 = .ok (.istore_n 2, 1) := by decide +kernel
theorem dX9_read_39 : decode cX9_read 39 = .ok (.iconst 0, 1) := by decide +kernel
theorem dX9_read_40 : decode cX9_read 40 = .ok (.istore_n 3, 1) := by decide +kernel
theorem dX9_read_41 : decode cX9_read 41 = .ok (.iload_n 3, 1) := by decide +kernel
theorem dX9_read_42 : decode cX9_read 42 = .ok (.iload_n 1, 1) := by decide +kernel
theorem dX9_read_43 : decode cX9_read 43 = .ok (.if_icmp .ge 21, 3) := by decide +kernel
theorem dX9_read_46 : decode cX9_read 46 = .ok (.iload_n 2, 1) := by decide +kernel
theorem dX9_read_47 : decode cX9_read 47 = .ok (.iload_n 1, 1) := by decide +kernel
theorem dX9_read_48 : decode cX9_read 48 = .ok (.if_icmp .ge 16, 3) := by decide +kernel
theorem dX9_read_51 : decode cX9_read 51 = .ok (.aload_n 0, 1) := by decide +kernel
theorem dX9_read_52 : decode cX9_read 52 = .ok (.iload_n 2, 1) := by decide +kernel
theorem dX9_read_53 : decode cX9_read 53 = .ok (.iload_n 1, 1) := by decide +kernel
theorem dX9_read_54 : decode cX9_read 54 = .ok (.invokevirtual 98, 3) := by decide +kernel
theorem dX9_read_57 : decode cX9_read 57 = .ok (.istore_n 2, 1) := by decide +kernel
theorem dX9_read_58 : decode cX9_read 58 = .ok (.iinc 3 1, 3) := by decide +kernel
theorem dX9_read_61 : decode cX9_read 61 = .ok (.goto (-20), 3) := by decide +kernel
theorem dX9_read_64 : decode cX9_read 64 = .ok (.aload_n 0, 1) := by decide +kernel
theorem dX9_read_65 : decode cX9_read 65 = .ok (.iconst 0, 1) := by decide +kernel
theorem dX9_read_66 : decode cX9_read 66 = .ok (.iload_n 1, 1) := by decide +kernel
theorem dX9_read_67 : decode cX9_read 67 = .ok (.iconst 0, 1) := by decide +kernel
theorem dX9_read_68 : decode cX9_read 68 = .ok (.invokevirtual 102, 3) := by decide +kernel
theorem dX9_read_71 : decode cX9_read 71 = .ok (.aload_n 0, 1) := by decide +kernel
theorem dX9_read_72 : decode cX9_read 72 = .ok (.iconst 0, 1) := by decide +kernel
theorem dX9_read_73 : decode cX9_read 73 = .ok (.putfield 106, 3) := by decide +kernel
theorem dX9_read_76 : decode cX9_read 76 = .ok (.return_, 1) := by decide +kernel
theorem dX9_kind_0 : decode cX9_kind 0 = .ok (.aload_n 0, 1) := by decide +kernel
theorem dX9_kind_1 : decode cX9_kind 1 = .ok (.getfield 9, 3) := by decide +kernel
theorem dX9_kind_4 : decode cX9_kind 4 = .ok (.aload_n 0, 1) := by decide +kernel
theorem dX9_kind_5 : decode cX9_kind 5 = .ok (.getfield 106, 3) := by decide +kernel
theorem dX9_kind_8 : decode cX9_kind 8 = .ok (.iaload, 1) := by decide +kernel
theorem dX9_kind_9 : decode cX9_kind 9 = .ok (.ireturn, 1) := by decide +kernel
theorem dX9_where_0 : decode cX9_where 0 = .ok (.aload_n 0, 1) := by decide +kernel
theorem dX9_where_1 : decode cX9_where 1 = .ok (.getfield 15, 3) := by decide +kernel
theorem dX9_where_4 : decode cX9_where 4 = .ok (.aload_n 0, 1) := by decide +kernel
theorem dX9_where_5 : decode cX9_where 5 = .ok (.getfield 106, 3) := by decide +kernel
theorem dX9_where_8 : decode cX9_where 8 = .ok (.iaload, 1) := by decide +kernel
theorem dX9_where_9 : decode cX9_where 9 = .ok (.ireturn, 1) := by decide +kernel
theorem dX9_step_0 : decode cX9_step 0 = .ok (.aload_n 0, 1) := by decide +kernel
theorem dX9_step_1 : decode cX9_step 1 = .ok (.aload_n 0, 1) := by decide +kernel
theorem dX9_step_2 : decode cX9_step 2 = .ok (.getfield 106, 3) := by decide +kernel
theorem dX9_step_5 : decode cX9_step 5 = .ok (.iload_n 1, 1) := by decide +kernel
theorem dX9_step_6 : decode cX9_step 6 = .ok (.iadd, 1) := by decide +kernel
theorem dX9_step_7 : decode cX9_step 7 = .ok (.aload_n 0, 1) := by decide +kernel
theorem dX9_step_8 : decode cX9_step 8 = .ok (.getfield 92, 3) := by decide +kernel
theorem dX9_step_11 : decode cX9_step 11 = .ok (.iconst 1, 1) := by decide +kernel
theorem dX9_step_12 : decode cX9_step 12 = .ok (.isub, 1) := by decide +kernel
theorem dX9_step_13 : decode cX9_step 13 = .ok (.invokestatic 109, 3) := by decide +kernel
theorem dX9_step_16 : decode cX9_step 16 = .ok (.putfield 106, 3) := by decide +kernel
theorem dX9_step_19 : decode cX9_step 19 = .ok (.return_, 1) := by decide +kernel
theorem dX9_fail_0 : decode cX9_fail 0 = .ok (.aload_n 0, 1) := by decide +kernel
theorem dX9_fail_1 : decode cX9_fail 1 = .ok (.getfield 95, 3) := by decide +kernel
theorem dX9_fail_4 : decode cX9_fail 4 = .ok (.ifCond .ne 13, 3) := by decide +kernel
theorem dX9_fail_7 : decode cX9_fail 7 = .ok (.aload_n 0, 1) := by decide +kernel
theorem dX9_fail_8 : decode cX9_fail 8 = .ok (.iload_n 1, 1) := by decide +kernel
theorem dX9_fail_9 : decode cX9_fail 9 = .ok (.putfield 95, 3) := by decide +kernel
theorem dX9_fail_12 : decode cX9_fail 12 = .ok (.aload_n 0, 1) := by decide +kernel
theorem dX9_fail_13 : decode cX9_fail 13 = .ok (.iload_n 2, 1) := by decide +kernel
theorem dX9_fail_14 : decode cX9_fail 14 = .ok (.putfield 28, 3) := by decide +kernel
theorem dX9_fail_17 : decode cX9_fail 17 = .ok (.aload_n 0, 1) := by decide +kernel
theorem dX9_fail_18 : decode cX9_fail 18 = .ok (.aload_n 0, 1) := by decide +kernel
theorem dX9_fail_19 : decode cX9_fail 19 = .ok (.getfield 92, 3) := by decide +kernel
theorem dX9_fail_22 : decode cX9_fail 22 = .ok (.iconst 1, 1) := by decide +kernel
theorem dX9_fail_23 : decode cX9_fail 23 = .ok (.isub, 1) := by decide +kernel
theorem dX9_fail_24 : decode cX9_fail 24 = .ok (.putfield 106, 3) := by decide +kernel
theorem dX9_fail_27 : decode cX9_fail 27 = .ok (.return_, 1) := by decide +kernel
theorem dX9_add_0 : decode cX9_add 0 = .ok (.aload_n 0, 1) := by decide +kernel
theorem dX9_add_1 : decode cX9_add 1 = .ok (.getfield 9, 3) := by decide +kernel
theorem dX9_add_4 : decode cX9_add 4 = .ok (.aload_n 0, 1) := by decide +kernel
theorem dX9_add_5 : decode cX9_add 5 = .ok (.getfield 92, 3) := by decide +kernel
theorem dX9_add_8 : decode cX9_add 8 = .ok (.iload_n 1, 1) := by decide +kernel
theorem dX9_add_9 : decode cX9_add 9 = .ok (.iastore, 1) := by decide +kernel
theorem dX9_add_10 : decode cX9_add 10 = .ok (.aload_n 0, 1) := by decide +kernel
theorem dX9_add_11 : decode cX9_add 11 = .ok (.getfield 15, 3) := by decide +kernel
theorem dX9_add_14 : decode cX9_add 14 = .ok (.aload_n 0, 1) := by decide +kernel
theorem dX9_add_15 : decode cX9_add 15 = .ok (.getfield 92, 3) := by decide +kernel
theorem dX9_add_18 : decode cX9_add 18 = .ok (.iload_n 2, 1) := by decide +kernel
theorem dX9_add_19 : decode cX9_add 19 = .ok (.iastore, 1) := by decide +kernel
theorem dX9_add_20 : decode cX9_add 20 = .ok (.aload_n 0, 1) := by decide +kernel
theorem dX9_add_21 : decode cX9_add 21 = .ok (.getfield 18, 3) := by decide +kernel
theorem dX9_add_24 : decode cX9_add 24 = .ok (.aload_n 0, 1) := by decide +kernel
theorem dX9_add_25 : decode cX9_add 25 = .ok (.getfield 92, 3) := by decide +kernel
theorem dX9_add_28 : decode cX9_add 28 = .ok (.iload_n 3, 1) := by decide +kernel
theorem dX9_add_29 : decode cX9_add 29 = .ok (.iastore, 1) := by decide +kernel
theorem dX9_add_30 : decode cX9_add 30 = .ok (.aload_n 0, 1) := by decide +kernel
theorem dX9_add_31 : decode cX9_add 31 = .ok (.getfield 25, 3) := by decide +kernel
theorem dX9_add_34 : decode cX9_add 34 = .ok (.aload_n 0, 1) := by decide +kernel
theorem dX9_add_35 : decode cX9_add 35 = .ok (.getfield 92, 3) := by decide +kernel
theorem dX9_add_38 : decode cX9_add 38 = .ok (.iconst 0, 1) := by decide +kernel
theorem dX9_add_39 : decode cX9_add 39 = .ok (.iastore, 1) := by decide +kernel
theorem dX9_add_40 : decode cX9_add 40 = .ok (.aload_n 0, 1) := by decide +kernel
theorem dX9_add_41 : decode cX9_add 41 = .ok (.dup, 1) := by decide +kernel
theorem dX9_add_42 : decode cX9_add 42 = .ok (.getfield 92, 3) := by decide +kernel
theorem dX9_add_45 : decode cX9_add 45 = .ok (.iconst 1, 1) := by decide +kernel
theorem dX9_add_46 : decode cX9_add 46 = .ok (.iadd, 1) := by decide +kernel
theorem dX9_add_47 : decode cX9_add 47 = .ok (.putfield 92, 3) := by decide +kernel
theorem dX9_add_50 : decode cX9_add 50 = .ok (.return_, 1) := by decide +kernel
theorem dX9_nameOf_0 : decode cX9_nameOf 0 = .ok (.iload_n 3, 1) := by decide +kernel
theorem dX9_nameOf_1 : decode cX9_nameOf 1 = .ok (.istore 4, 2) := by decide +kernel
theorem dX9_nameOf_3 : decode cX9_nameOf 3 = .ok (.iload_n 2, 1) := by decide +kernel
theorem dX9_nameOf_4 : decode cX9_nameOf 4 = .ok (.istore 5, 2) := by decide +kernel
theorem dX9_nameOf_6 : decode cX9_nameOf 6 = .ok (.iload 5, 2) := by decide +kernel
theorem dX9_nameOf_8 : decode cX9_nameOf 8 = .ok (.iload_n 2, 1) := by decide +kernel
theorem dX9_nameOf_9 : decode cX9_nameOf 9 = .ok (.iload_n 3, 1) := by decide +kernel
theorem dX9_nameOf_10 : decode cX9_nameOf 10 = .ok (.iadd, 1) := by decide +kernel
theorem dX9_nameOf_11 : decode cX9_nameOf 11 = .ok (.if_icmp .ge 21, 3) := by decide +kernel
theorem dX9_nameOf_14 : decode cX9_nameOf 14 = .ok (.iload 4, 2) := by decide +kernel
theorem dX9_nameOf_16 : decode cX9_nameOf 16 = .ok (.bipush 31, 2) := by decide +kernel
theorem dX9_nameOf_18 : decode cX9_nameOf 18 = .ok (.imul, 1) := by decide +kernel
theorem dX9_nameOf_19 : decode cX9_nameOf 19 = .ok (.aload_n 1, 1) := by decide +kernel
theorem dX9_nameOf_20 : decode cX9_nameOf 20 = .ok (.iload 5, 2) := by decide +kernel
theorem dX9_nameOf_22 : decode cX9_nameOf 22 = .ok (.baload, 1) := by decide +kernel
theorem dX9_nameOf_23 : decode cX9_nameOf 23 = .ok (.iadd, 1) := by decide +kernel
theorem dX9_nameOf_24 : decode cX9_nameOf 24 = .ok (.istore 4, 2) := by decide +kernel
theorem dX9_nameOf_26 : decode cX9_nameOf 26 = .ok (.iinc 5 1, 3) := by decide +kernel
end
section
theorem dX9_nameOf_29 : decode cX9_nameOf 29 = .ok (.goto (-23), 3) := by decide +kernel
theorem dX9_nameOf_32 : decode cX9_nameOf 32 = .ok (.iload 4, 2) := by decide +kernel
theorem dX9_nameOf_34 : decode cX9_nameOf 34 = .ok (.sipush 255, 3) := by decide +kernel
theorem dX9_nameOf_37 : decode cX9_nameOf 37 = .ok (.iand, 1) := by decide +kernel
theorem dX9_nameOf_38 : decode cX9_nameOf 38 = .ok (.istore 5, 2) := by decide +kernel
theorem dX9_nameOf_40 : decode cX9_nameOf 40 = .ok (.aload_n 0, 1) := by decide +kernel
theorem dX9_nameOf_41 : decode cX9_nameOf 41 = .ok (.getfield 48, 3) := by decide +kernel
theorem dX9_nameOf_44 : decode cX9_nameOf 44 = .ok (.iload 5, 2) := by decide +kernel
theorem dX9_nameOf_46 : decode cX9_nameOf 46 = .ok (.iaload, 1) := by decide +kernel
theorem dX9_nameOf_47 : decode cX9_nameOf 47 = .ok (.istore 6, 2) := by decide +kernel
theorem dX9_nameOf_49 : decode cX9_nameOf 49 = .ok (.iconst 0, 1) := by decide +kernel
theorem dX9_nameOf_50 : decode cX9_nameOf 50 = .ok (.istore 7, 2) := by decide +kernel
theorem dX9_nameOf_52 : decode cX9_nameOf 52 = .ok (.iload 7, 2) := by decide +kernel
theorem dX9_nameOf_54 : decode cX9_nameOf 54 = .ok (.sipush 3020, 3) := by decide +kernel
theorem dX9_nameOf_57 : decode cX9_nameOf 57 = .ok (.if_icmp .ge 38, 3) := by decide +kernel
theorem dX9_nameOf_60 : decode cX9_nameOf 60 = .ok (.iload 6, 2) := by decide +kernel
theorem dX9_nameOf_62 : decode cX9_nameOf 62 = .ok (.ifCond .lt 33, 3) := by decide +kernel
theorem dX9_nameOf_65 : decode cX9_nameOf 65 = .ok (.aload_n 0, 1) := by decide +kernel
theorem dX9_nameOf_66 : decode cX9_nameOf 66 = .ok (.iload 6, 2) := by decide +kernel
theorem dX9_nameOf_68 : decode cX9_nameOf 68 = .ok (.aload_n 1, 1) := by decide +kernel
theorem dX9_nameOf_69 : decode cX9_nameOf 69 = .ok (.iload_n 2, 1) := by decide +kernel
theorem dX9_nameOf_70 : decode cX9_nameOf 70 = .ok (.iload_n 3, 1) := by decide +kernel
theorem dX9_nameOf_71 : decode cX9_nameOf 71 = .ok (.invokevirtual 154, 3) := by decide +kernel
theorem dX9_nameOf_74 : decode cX9_nameOf 74 = .ok (.ifCond .eq 6, 3) := by decide +kernel
theorem dX9_nameOf_77 : decode cX9_nameOf 77 = .ok (.iload 6, 2) := by decide +kernel
theorem dX9_nameOf_79 : decode cX9_nameOf 79 = .ok (.ireturn, 1) := by decide +kernel
theorem dX9_nameOf_80 : decode cX9_nameOf 80 = .ok (.aload_n 0, 1) := by decide +kernel
theorem dX9_nameOf_81 : decode cX9_nameOf 81 = .ok (.getfield 45, 3) := by decide +kernel
theorem dX9_nameOf_84 : decode cX9_nameOf 84 = .ok (.iload 6, 2) := by decide +kernel
theorem dX9_nameOf_86 : decode cX9_nameOf 86 = .ok (.iaload, 1) := by decide +kernel
theorem dX9_nameOf_87 : decode cX9_nameOf 87 = .ok (.istore 6, 2) := by decide +kernel
theorem dX9_nameOf_89 : decode cX9_nameOf 89 = .ok (.iinc 7 1, 3) := by decide +kernel
theorem dX9_nameOf_92 : decode cX9_nameOf 92 = .ok (.goto (-40), 3) := by decide +kernel
theorem dX9_nameOf_95 : decode cX9_nameOf 95 = .ok (.aload_n 0, 1) := by decide +kernel
theorem dX9_nameOf_96 : decode cX9_nameOf 96 = .ok (.iload 5, 2) := by decide +kernel
theorem dX9_nameOf_98 : decode cX9_nameOf 98 = .ok (.aload_n 1, 1) := by decide +kernel
theorem dX9_nameOf_99 : decode cX9_nameOf 99 = .ok (.iload_n 2, 1) := by decide +kernel
theorem dX9_nameOf_100 : decode cX9_nameOf 100 = .ok (.iload_n 3, 1) := by decide +kernel
theorem dX9_nameOf_101 : decode cX9_nameOf 101 = .ok (.invokevirtual 158, 3) := by decide +kernel
theorem dX9_nameOf_104 : decode cX9_nameOf 104 = .ok (.ireturn, 1) := by decide +kernel
theorem dX9_isSpelled_0 : decode cX9_isSpelled 0 = .ok (.aload_n 0, 1) := by decide +kernel
theorem dX9_isSpelled_1 : decode cX9_isSpelled 1 = .ok (.getfield 42, 3) := by decide +kernel
theorem dX9_isSpelled_4 : decode cX9_isSpelled 4 = .ok (.iload_n 1, 1) := by decide +kernel
theorem dX9_isSpelled_5 : decode cX9_isSpelled 5 = .ok (.iaload, 1) := by decide +kernel
theorem dX9_isSpelled_6 : decode cX9_isSpelled 6 = .ok (.iload 4, 2) := by decide +kernel
theorem dX9_isSpelled_8 : decode cX9_isSpelled 8 = .ok (.if_icmp .eq 5, 3) := by decide +kernel
theorem dX9_isSpelled_11 : decode cX9_isSpelled 11 = .ok (.iconst 0, 1) := by decide +kernel
theorem dX9_isSpelled_12 : decode cX9_isSpelled 12 = .ok (.ireturn, 1) := by decide +kernel
theorem dX9_isSpelled_13 : decode cX9_isSpelled 13 = .ok (.iconst 0, 1) := by decide +kernel
theorem dX9_isSpelled_14 : decode cX9_isSpelled 14 = .ok (.istore 5, 2) := by decide +kernel
theorem dX9_isSpelled_16 : decode cX9_isSpelled 16 = .ok (.iload 5, 2) := by decide +kernel
theorem dX9_isSpelled_18 : decode cX9_isSpelled 18 = .ok (.iload 4, 2) := by decide +kernel
theorem dX9_isSpelled_20 : decode cX9_isSpelled 20 = .ok (.if_icmp .ge 34, 3) := by decide +kernel
theorem dX9_isSpelled_23 : decode cX9_isSpelled 23 = .ok (.aload_n 0, 1) := by decide +kernel
theorem dX9_isSpelled_24 : decode cX9_isSpelled 24 = .ok (.getfield 36, 3) := by decide +kernel
theorem dX9_isSpelled_27 : decode cX9_isSpelled 27 = .ok (.aload_n 0, 1) := by decide +kernel
theorem dX9_isSpelled_28 : decode cX9_isSpelled 28 = .ok (.getfield 39, 3) := by decide +kernel
theorem dX9_isSpelled_31 : decode cX9_isSpelled 31 = .ok (.iload_n 1, 1) := by decide +kernel
theorem dX9_isSpelled_32 : decode cX9_isSpelled 32 = .ok (.iaload, 1) := by decide +kernel
theorem dX9_isSpelled_33 : decode cX9_isSpelled 33 = .ok (.iload 5, 2) := by decide +kernel
theorem dX9_isSpelled_35 : decode cX9_isSpelled 35 = .ok (.iadd, 1) := by decide +kernel
theorem dX9_isSpelled_36 : decode cX9_isSpelled 36 = .ok (.baload, 1) := by decide +kernel
theorem dX9_isSpelled_37 : decode cX9_isSpelled 37 = .ok (.aload_n 2, 1) := by decide +kernel
theorem dX9_isSpelled_38 : decode cX9_isSpelled 38 = .ok (.iload_n 3, 1) := by decide +kernel
theorem dX9_isSpelled_39 : decode cX9_isSpelled 39 = .ok (.iload 5, 2) := by decide +kernel
theorem dX9_isSpelled_41 : decode cX9_isSpelled 41 = .ok (.iadd, 1) := by decide +kernel
theorem dX9_isSpelled_42 : decode cX9_isSpelled 42 = .ok (.baload, 1) := by decide +kernel
theorem dX9_isSpelled_43 : decode cX9_isSpelled 43 = .ok (.if_icmp .eq 5, 3) := by decide +kernel
theorem dX9_isSpelled_46 : decode cX9_isSpelled 46 = .ok (.iconst 0, 1) := by decide +kernel
theorem dX9_isSpelled_47 : decode cX9_isSpelled 47 = .ok (.ireturn, 1) := by decide +kernel
theorem dX9_isSpelled_48 : decode cX9_isSpelled 48 = .ok (.iinc 5 1, 3) := by decide +kernel
theorem dX9_isSpelled_51 : decode cX9_isSpelled 51 = .ok (.goto (-35), 3) := by decide +kernel
theorem dX9_isSpelled_54 : decode cX9_isSpelled 54 = .ok (.iconst 1, 1) := by decide +kernel
theorem dX9_isSpelled_55 : decode cX9_isSpelled 55 = .ok (.ireturn, 1) := by decide +kernel
theorem dX9_addName_0 : decode cX9_addName 0 = .ok (.aload_n 0, 1) := by decide +kernel
theorem dX9_addName_1 : decode cX9_addName 1 = .ok (.getfield 89, 3) := by decide +kernel
theorem dX9_addName_4 : decode cX9_addName 4 = .ok (.istore 5, 2) := by decide +kernel
theorem dX9_addName_6 : decode cX9_addName 6 = .ok (.iload 5, 2) := by decide +kernel
theorem dX9_addName_8 : decode cX9_addName 8 = .ok (.ifCond .ne 7, 3) := by decide +kernel
theorem dX9_addName_11 : decode cX9_addName 11 = .ok (.iconst 0, 1) := by decide +kernel
theorem dX9_addName_12 : decode cX9_addName 12 = .ok (.goto 22, 3) := by decide +kernel
theorem dX9_addName_15 : decode cX9_addName 15 = .ok (.aload_n 0, 1) := by decide +kernel
theorem dX9_addName_16 : decode cX9_addName 16 = .ok (.getfield 39, 3) := by decide +kernel
theorem dX9_addName_19 : decode cX9_addName 19 = .ok (.iload 5, 2) := by decide +kernel
theorem dX9_addName_21 : decode cX9_addName 21 = .ok (.iconst 1, 1) := by decide +kernel
theorem dX9_addName_22 : decode cX9_addName 22 = .ok (.isub, 1) := by decide +kernel
theorem dX9_addName_23 : decode cX9_addName 23 = .ok (.iaload, 1) := by decide +kernel
theorem dX9_addName_24 : decode cX9_addName 24 = .ok (.aload_n 0, 1) := by decide +kernel
theorem dX9_addName_25 : decode cX9_addName 25 = .ok (.getfield 42, 3) := by decide +kernel
theorem dX9_addName_28 : decode cX9_addName 28 = .ok (.iload 5, 2) := by decide +kernel
theorem dX9_addName_30 : decode cX9_addName 30 = .ok (.iconst 1, 1) := by decide +kernel
theorem dX9_addName_31 : decode cX9_addName 31 = .ok (.isub, 1) := by decide +kernel
theorem dX9_addName_32 : decode cX9_addName 32 = .ok (.iaload, 1) := by decide +kernel
theorem dX9_addName_33 : decode cX9_addName 33 = .ok (.iadd, 1) := by decide +kernel
theorem dX9_addName_34 : decode cX9_addName 34 = .ok (.istore 6, 2) := by decide +kernel
theorem dX9_addName_36 : decode cX9_addName 36 = .ok (.aload_n 2, 1) := by decide +kernel
theorem dX9_addName_37 : decode cX9_addName 37 = .ok (.iload_n 3, 1) := by decide +kernel
theorem dX9_addName_38 : decode cX9_addName 38 = .ok (.aload_n 0, 1) := by decide +kernel
theorem dX9_addName_39 : decode cX9_addName 39 = .ok (.getfield 36, 3) := by decide +kernel
theorem dX9_addName_42 : decode cX9_addName 42 = .ok (.iload 6, 2) := by decide +kernel
theorem dX9_addName_44 : decode cX9_addName 44 = .ok (.iload 4, 2) := by decide +kernel
theorem dX9_addName_46 : decode cX9_addName 46 = .ok (.invokestatic 83, 3) := by decide +kernel
theorem dX9_addName_49 : decode cX9_addName 49 = .ok (.aload_n 0, 1) := by decide +kernel
theorem dX9_addName_50 : decode cX9_addName 50 = .ok (.getfield 39, 3) := by decide +kernel
theorem dX9_addName_53 : decode cX9_addName 53 = .ok (.iload 5, 2) := by decide +kernel
theorem dX9_addName_55 : decode cX9_addName 55 = .ok (.iload 6, 2) := by decide +kernel
theorem dX9_addName_57 : decode cX9_addName 57 = .ok (.iastore, 1) := by decide +kernel
theorem dX9_addName_58 : decode cX9_addName 58 = .ok (.aload_n 0, 1) := by decide +kernel
theorem dX9_addName_59 : decode cX9_addName 59 = .ok (.getfield 42, 3) := by decide +kernel
theorem dX9_addName_62 : decode cX9_addName 62 = .ok (.iload 5, 2) := by decide +kernel
theorem dX9_addName_64 : decode cX9_addName 64 = .ok (.iload 4, 2) := by decide +kernel
theorem dX9_addName_66 : decode cX9_addName 66 = .ok (.iastore, 1) := by decide +kernel
theorem dX9_addName_67 : decode cX9_addName 67 = .ok (.aload_n 0, 1) := by decide +kernel
theorem dX9_addName_68 : decode cX9_addName 68 = .ok (.getfield 45, 3) := by decide +kernel
theorem dX9_addName_71 : decode cX9_addName 71 = .ok (.iload 5, 2) := by decide +kernel
theorem dX9_addName_73 : decode cX9_addName 73 = .ok (.aload_n 0, 1) := by decide +kernel
theorem dX9_addName_74 : decode cX9_addName 74 = .ok (.getfield 48, 3) := by decide +kernel
theorem dX9_addName_77 : decode cX9_addName 77 = .ok (.iload_n 1, 1) := by decide +kernel
theorem dX9_addName_78 : decode cX9_addName 78 = .ok (.iaload, 1) := by decide +kernel
theorem dX9_addName_79 : decode cX9_addName 79 = .ok (.iastore, 1) := by decide +kernel
theorem dX9_addName_80 : decode cX9_addName 80 = .ok (.aload_n 0, 1) := by decide +kernel
theorem dX9_addName_81 : decode cX9_addName 81 = .ok (.getfield 48, 3) := by decide +kernel
theorem dX9_addName_84 : decode cX9_addName 84 = .ok (.iload_n 1, 1) := by decide +kernel
theorem dX9_addName_85 : decode cX9_addName 85 = .ok (.iload 5, 2) := by decide +kernel
theorem dX9_addName_87 : decode cX9_addName 87 = .ok (.iastore, 1) := by decide +kernel
theorem dX9_addName_88 : decode cX9_addName 88 = .ok (.aload_n 0, 1) := by decide +kernel
theorem dX9_addName_89 : decode cX9_addName 89 = .ok (.dup, 1) := by decide +kernel
theorem dX9_addName_90 : decode cX9_addName 90 = .ok (.getfield 89, 3) := by decide +kernel
theorem dX9_addName_93 : decode cX9_addName 93 = .ok (.iconst 1, 1) := by decide +kernel
theorem dX9_addName_94 : decode cX9_addName 94 = .ok (.iadd, 1) := by decide +kernel
theorem dX9_addName_95 : decode cX9_addName 95 = .ok (.putfield 89, 3) := by decide +kernel
theorem dX9_addName_98 : decode cX9_addName 98 = .ok (.iload 5, 2) := by decide +kernel
theorem dX9_addName_100 : decode cX9_addName 100 = .ok (.ireturn, 1) := by decide +kernel
theorem dX3_init_0 : decode cX3_init 0 = .ok (.aload_n 0, 1) := by decide +kernel
theorem dX3_init_1 : decode cX3_init 1 = .ok (.invokespecial 3, 3) := by decide +kernel
theorem dX3_init_4 : decode cX3_init 4 = .ok (.aload_n 0, 1) := by decide +kernel
theorem dX3_init_5 : decode cX3_init 5 = .ok (.bipush 70, 2) := by decide +kernel
theorem dX3_init_7 : decode cX3_init 7 = .ok (.newarray .int, 2) := by decide +kernel
theorem dX3_init_9 : decode cX3_init 9 = .ok (.putfield 9, 3) := by decide +kernel
theorem dX3_init_12 : decode cX3_init 12 = .ok (.aload_n 0, 1) := by decide +kernel
theorem dX3_init_13 : decode cX3_init 13 = .ok (.aload_n 1, 1) := by decide +kernel
theorem dX3_init_14 : decode cX3_init 14 = .ok (.putfield 15, 3) := by decide +kernel
theorem dX3_init_17 : decode cX3_init 17 = .ok (.return_, 1) := by decide +kernel
theorem dX3_program_0 : decode cX3_program 0 = .ok (.aload_n 0, 1) := by decide +kernel
theorem dX3_program_1 : decode cX3_program 1 = .ok (.iconst 0, 1) := by decide +kernel
theorem dX3_program_2 : decode cX3_program 2 = .ok (.putfield 19, 3) := by decide +kernel
theorem dX3_program_5 : decode cX3_program 5 = .ok (.aload_n 0, 1) := by decide +kernel
theorem dX3_program_6 : decode cX3_program 6 = .ok (.iconst 0, 1) := by decide +kernel
theorem dX3_program_7 : decode cX3_program 7 = .ok (.putfield 23, 3) := by decide +kernel
theorem dX3_program_10 : decode cX3_program 10 = .ok (.aload_n 0, 1) := by decide +kernel
theorem dX3_program_11 : decode cX3_program 11 = .ok (.iconst 0, 1) := by decide +kernel
theorem dX3_program_12 : decode cX3_program 12 = .ok (.putfield 26, 3) := by decide +kernel
theorem dX3_program_15 : decode cX3_program 15 = .ok (.iconst 0, 1) := by decide +kernel
theorem dX3_program_16 : decode cX3_program 16 = .ok (.istore_n 1, 1) := by decide +kernel
theorem dX3_program_17 : decode cX3_program 17 = .ok (.iload_n 1, 1) := by decide +kernel
theorem dX3_program_18 : decode cX3_program 18 = .ok (.sipush 3002, 3) := by decide +kernel
theorem dX3_program_21 : decode cX3_program 21 = .ok (.if_icmp .ge 63, 3) := by decide +kernel
theorem dX3_program_24 : decode cX3_program 24 = .ok (.aload_n 0, 1) := by decide +kernel
theorem dX3_program_25 : decode cX3_program 25 = .ok (.getfield 15, 3) := by decide +kernel
theorem dX3_program_28 : decode cX3_program 28 = .ok (.invokevirtual 29, 3) := by decide +kernel
theorem dX3_program_31 : decode cX3_program 31 = .ok (.ifCond .eq 53, 3) := by decide +kernel
theorem dX3_program_34 : decode cX3_program 34 = .ok (.aload_n 0, 1) := by decide +kernel
theorem dX3_program_35 : decode cX3_program 35 = .ok (.getfield 15, 3) := by decide +kernel
theorem dX3_program_38 : decode cX3_program 38 = .ok (.invokevirtual 29, 3) := by decide +kernel
theorem dX3_program_41 : decode cX3_program 41 = .ok (.istore_n 2, 1) := by decide +kernel
theorem dX3_program_42 : decode cX3_program 42 = .ok (.iload_n 2, 1) := by decide +kernel
theorem dX3_program_43 : decode cX3_program 43 = .ok (.bipush 7, 2) := by decide +kernel
theorem dX3_program_45 : decode cX3_program 45 = .ok (.if_icmp .ne 10, 3) := by decide +kernel
theorem dX3_program_48 : decode cX3_program 48 = .ok (.aload_n 0, 1) := by decide +kernel
theorem dX3_program_49 : decode cX3_program 49 = .ok (.invokevirtual 35, 3) := by decide +kernel
theorem dX3_program_52 : decode cX3_program 52 = .ok (.goto 26, 3) := by decide +kernel
theorem dX3_program_55 : decode cX3_program 55 = .ok (.iload_n 2, 1) := by decide +kernel
theorem dX3_program_56 : decode cX3_program 56 = .ok (.iconst 5, 1) := by decide +kernel
theorem dX3_program_57 : decode cX3_program 57 = .ok (.if_icmp .eq 9, 3) := by decide +kernel
theorem dX3_program_60 : decode cX3_program 60 = .ok (.iload_n 2, 1) := by decide +kernel
theorem dX3_program_61 : decode cX3_program 61 = .ok (.bipush 6, 2) := by decide +kernel
theorem dX3_program_63 : decode cX3_program 63 = .ok (.if_icmp .ne 11, 3) := by decide +kernel
theorem dX3_program_66 : decode cX3_program 66 = .ok (.aload_n 0, 1) := by decide +kernel
theorem dX3_program_67 : decode cX3_program 67 = .ok (.iload_n 2, 1) := by decide +kernel
theorem dX3_program_68 : decode cX3_program 68 = .ok (.invokevirtual 38, 3) := by decide +kernel
theorem dX3_program_71 : decode cX3_program 71 = .ok (.goto 7, 3) := by decide +kernel
theorem dX3_program_74 : decode cX3_program 74 = .ok (.aload_n 0, 1) := by decide +kernel
theorem dX3_program_75 : decode cX3_program 75 = .ok (.invokevirtual 42, 3) := by decide +kernel
theorem dX3_program_78 : decode cX3_program 78 = .ok (.iinc 1 1, 3) := by decide +kernel
theorem dX3_program_81 : decode cX3_program 81 = .ok (.goto (-64), 3) := by decide +kernel
theorem dX3_program_84 : decode cX3_program 84 = .ok (.return_, 1) := by decide +kernel
theorem dX10_init_0 : decode cX10_init 0 = .ok (.aload_n 0, 1) := by decide +kernel
theorem dX10_init_1 : decode cX10_init 1 = .ok (.invokespecial 3, 3) := by decide +kernel
theorem dX10_init_4 : decode cX10_init 4 = .ok (.aload_n 0, 1) := by decide +kernel
theorem dX10_init_5 : decode cX10_init 5 = .ok (.sipush 3040, 3) := by decide +kernel
theorem dX10_init_8 : decode cX10_init 8 = .ok (.newarray .int, 2) := by decide +kernel
theorem dX10_init_10 : decode cX10_init 10 = .ok (.putfield 9, 3) := by decide +kernel
theorem dX10_init_13 : decode cX10_init 13 = .ok (.aload_n 0, 1) := by decide +kernel
theorem dX10_init_14 : decode cX10_init 14 = .ok (.sipush 3040, 3) := by decide +kernel
theorem dX10_init_17 : decode cX10_init 17 = .ok (.newarray .int, 2) := by decide +kernel
theorem dX10_init_19 : decode cX10_init 19 = .ok (.putfield 15, 3) := by decide +kernel
theorem dX10_init_22 : decode cX10_init 22 = .ok (.aload_n 0, 1) := by decide +kernel
theorem dX10_init_23 : decode cX10_init 23 = .ok (.sipush 3040, 3) := by decide +kernel
theorem dX10_init_26 : decode cX10_init 26 = .ok (.newarray .int, 2) := by decide +kernel
theorem dX10_init_28 : decode cX10_init 28 = .ok (.putfield 18, 3) := by decide +kernel
theorem dX10_init_31 : decode cX10_init 31 = .ok (.aload_n 0, 1) := by decide +kernel
theorem dX10_init_32 : decode cX10_init 32 = .ok (.sipush 3040, 3) := by decide +kernel
theorem dX10_init_35 : decode cX10_init 35 = .ok (.newarray .boolean, 2) := by decide +kernel
theorem dX10_init_37 : decode cX10_init 37 = .ok (.putfield 21, 3) := by decide +kernel
theorem dX10_init_40 : decode cX10_init 40 = .ok (.aload_n 0, 1) := by decide +kernel
theorem dX10_init_41 : decode cX10_init 41 = .ok (.sipush 3040, 3) := by decide +kernel
theorem dX10_init_44 : decode cX10_init 44 = .ok (.newarray .int, 2) := by decide +kernel
theorem dX10_init_46 : decode cX10_init 46 = .ok (.putfield 25, 3) := by decide +kernel
theorem dX10_init_49 : decode cX10_init 49 = .ok (.aload_n 0, 1) := by decide +kernel
theorem dX10_init_50 : decode cX10_init 50 = .ok (.sipush 3040, 3) := by decide +kernel
theorem dX10_init_53 : decode cX10_init 53 = .ok (.newarray .int, 2) := by decide +kernel
theorem dX10_init_55 : decode cX10_init 55 = .ok (.putfield 28, 3) := by decide +kernel
theorem dX10_init_58 : decode cX10_init 58 = .ok (.aload_n 0, 1) := by decide +kernel
theorem dX10_init_59 : decode cX10_init 59 = .ok (.sipush 3040, 3) := by decide +kernel
theorem dX10_init_62 : decode cX10_init 62 = .ok (.newarray .int, 2) := by decide +kernel
theorem dX10_init_64 : decode cX10_init 64 = .ok (.putfield 31, 3) := by decide +kernel
theorem dX10_init_67 : decode cX10_init 67 = .ok (.aload_n 0, 1) := by decide +kernel
theorem dX10_init_68 : decode cX10_init 68 = .ok (.bipush 30, 2) := by decide +kernel
theorem dX10_init_70 : decode cX10_init 70 = .ok (.newarray .int, 2) := by decide +kernel
theorem dX10_init_72 : decode cX10_init 72 = .ok (.putfield 34, 3) := by decide +kernel
theorem dX10_init_75 : decode cX10_init 75 = .ok (.aload_n 0, 1) := by decide +kernel
theorem dX10_init_76 : decode cX10_init 76 = .ok (.bipush 30, 2) := by decide +kernel
theorem dX10_init_78 : decode cX10_init 78 = .ok (.newarray .int, 2) := by decide +kernel
theorem dX10_init_80 : decode cX10_init 80 = .ok (.putfield 37, 3) := by decide +kernel
theorem dX10_init_83 : decode cX10_init 83 = .ok (.aload_n 0, 1) := by decide +kernel
theorem dX10_init_84 : decode cX10_init 84 = .ok (.sipush 360, 3) := by decide +kernel
theorem dX10_init_87 : decode cX10_init 87 = .ok (.newarray .int, 2) := by decide +kernel
theorem dX10_init_89 : decode cX10_init 89 = .ok (.putfield 40, 3) := by decide +kernel
theorem dX10_init_92 : decode cX10_init 92 = .ok (.aload_n 0, 1) := by decide +kernel
theorem dX10_init_93 : decode cX10_init 93 = .ok (.sipush 360, 3) := by decide +kernel
theorem dX10_init_96 : decode cX10_init 96 = .ok (.newarray .int, 2) := by decide +kernel
theorem dX10_init_98 : decode cX10_init 98 = .ok (.putfield 43, 3) := by decide +kernel
theorem dX10_init_101 : decode cX10_init 101 = .ok (.aload_n 0, 1) := by decide +kernel
theorem dX10_init_102 : decode cX10_init 102 = .ok (.sipush 4320, 3) := by decide +kernel
theorem dX10_init_105 : decode cX10_init 105 = .ok (.newarray .int, 2) := by decide +kernel
theorem dX10_init_107 : decode cX10_init 107 = .ok (.putfield 46, 3) := by decide +kernel
theorem dX10_init_110 : decode cX10_init 110 = .ok (.aload_n 0, 1) := by decide +kernel
theorem dX10_init_111 : decode cX10_init 111 = .ok (.sipush 4320, 3) := by decide +kernel
theorem dX10_init_114 : decode cX10_init 114 = .ok (.newarray .int, 2) := by decide +kernel
theorem dX10_init_116 : decode cX10_init 116 = .ok (.putfield 49, 3) := by decide +kernel
theorem dX10_init_119 : decode cX10_init 119 = .ok (.aload_n 0, 1) := by decide +kernel
theorem dX10_init_120 : decode cX10_init 120 = .ok (.sipush 4320, 3) := by decide +kernel
theorem dX10_init_123 : decode cX10_init 123 = .ok (.newarray .int, 2) := by decide +kernel
theorem dX10_init_125 : decode cX10_init 125 = .ok (.putfield 52, 3) := by decide +kernel
theorem dX10_init_128 : decode cX10_init 128 = .ok (.return_, 1) := by decide +kernel
theorem dX10_clear_0 : decode cX10_clear 0 = .ok (.aload_n 0, 1) := by decide +kernel
theorem dX10_clear_1 : decode cX10_clear 1 = .ok (.iconst 0, 1) := by decide +kernel
theorem dX10_clear_2 : decode cX10_clear 2 = .ok (.putfield 55, 3) := by decide +kernel
theorem dX10_clear_5 : decode cX10_clear 5 = .ok (.aload_n 0, 1) := by decide +kernel
theorem dX10_clear_6 : decode cX10_clear 6 = .ok (.iconst 0, 1) := by decide +kernel
theorem dX10_clear_7 : decode cX10_clear 7 = .ok (.putfield 59, 3) := by decide +kernel
theorem dX10_clear_10 : decode cX10_clear 10 = .ok (.iconst 0, 1) := by decide +kernel
theorem dX10_clear_11 : decode cX10_clear 11 = .ok (.istore_n 1, 1) := by decide +kernel
theorem dX10_clear_12 : decode cX10_clear 12 = .ok (.iload_n 1, 1) := by decide +kernel
theorem dX10_clear_13 : decode cX10_clear 13 = .ok (.bipush 34, 2) := by decide +kernel
theorem dX10_clear_15 : decode cX10_clear 15 = .ok (.if_icmp .ge 42, 3) := by decide +kernel
theorem dX10_clear_18 : decode cX10_clear 18 = .ok (.aload_n 0, 1) := by decide +kernel
theorem dX10_clear_19 : decode cX10_clear 19 = .ok (.iconst 0, 1) := by decide +kernel
theorem dX10_clear_20 : decode cX10_clear 20 = .ok (.iconst 0, 1) := by decide +kernel
theorem dX10_clear_21 : decode cX10_clear 21 = .ok (.invokevirtual 62, 3) := by decide +kernel
theorem dX10_clear_24 : decode cX10_clear 24 = .ok (.pop, 1) := by decide +kernel
theorem dX10_clear_25 : decode cX10_clear 25 = .ok (.aload_n 0, 1) := by decide +kernel
theorem dX10_clear_26 : decode cX10_clear 26 = .ok (.getfield 18, 3) := by decide +kernel
theorem dX10_clear_29 : decode cX10_clear 29 = .ok (.iload_n 1, 1) := by decide +kernel
theorem dX10_clear_30 : decode cX10_clear 30 = .ok (.iload_n 1, 1) := by decide +kernel
theorem dX10_clear_31 : decode cX10_clear 31 = .ok (.iconst 1, 1) := by decide +kernel
theorem dX10_clear_32 : decode cX10_clear 32 = .ok (.if_icmp .eq 13, 3) := by decide +kernel
theorem dX10_clear_35 : decode cX10_clear 35 = .ok (.iload_n 1, 1) := by decide +kernel
theorem dX10_clear_36 : decode cX10_clear 36 = .ok (.iconst 2, 1) := by decide +kernel
theorem dX10_clear_37 : decode cX10_clear 37 = .ok (.if_icmp .eq 8, 3) := by decide +kernel
theorem dX10_clear_40 : decode cX10_clear 40 = .ok (.iload_n 1, 1) := by decide +kernel
theorem dX10_clear_41 : decode cX10_clear 41 = .ok (.iconst 3, 1) := by decide +kernel
theorem dX10_clear_42 : decode cX10_clear 42 = .ok (.if_icmp .ne 7, 3) := by decide +kernel
theorem dX10_clear_45 : decode cX10_clear 45 = .ok (.iconst 1, 1) := by decide +kernel
theorem dX10_clear_46 : decode cX10_clear 46 = .ok (.goto 4, 3) := by decide +kernel
theorem dX10_clear_49 : decode cX10_clear 49 = .ok (.iconst 0, 1) := by decide +kernel
theorem dX10_clear_50 : decode cX10_clear 50 = .ok (.iastore, 1) := by decide +kernel
theorem dX10_clear_51 : decode cX10_clear 51 = .ok (.iinc 1 1, 3) := by decide +kernel
theorem dX10_clear_54 : decode cX10_clear 54 = .ok (.goto (-42), 3) := by decide +kernel
theorem dX10_clear_57 : decode cX10_clear 57 = .ok (.aload_n 0, 1) := by decide +kernel
theorem dX10_clear_58 : decode cX10_clear 58 = .ok (.getfield 9, 3) := by decide +kernel
theorem dX10_clear_61 : decode cX10_clear 61 = .ok (.iconst 3, 1) := by decide +kernel
theorem dX10_clear_62 : decode cX10_clear 62 = .ok (.iconst 1, 1) := by decide +kernel
theorem dX10_clear_63 : decode cX10_clear 63 = .ok (.iastore, 1) := by decide +kernel
theorem dX10_clear_64 : decode cX10_clear 64 = .ok (.aload_n 0, 1) := by decide +kernel
theorem dX10_clear_65 : decode cX10_clear 65 = .ok (.getfield 21, 3) := by decide +kernel
theorem dX10_clear_68 : decode cX10_clear 68 = .ok (.iconst 3, 1) := by decide +kernel
theorem dX10_clear_69 : decode cX10_clear 69 = .ok (.iconst 1, 1) := by decide +kernel
theorem dX10_clear_70 : decode cX10_clear 70 = .ok (.bastore, 1) := by decide +kernel
theorem dX10_clear_71 : decode cX10_clear 71 = .ok (.return_, 1) := by decide +kernel
theorem dX10_make_0 : decode cX10_make 0 = .ok (.aload_n 0, 1) := by decide +kernel
theorem dX10_make_1 : decode cX10_make 1 = .ok (.getfield 59, 3) := by decide +kernel
theorem dX10_make_4 : decode cX10_make 4 = .ok (.sipush 3040, 3) := by decide +kernel
theorem dX10_make_7 : decode cX10_make 7 = .ok (.if_icmp .ne 5, 3) := by decide +kernel
theorem dX10_make_10 : decode cX10_make 10 = .ok (.iconst 0, 1) := by decide +kernel
theorem dX10_make_11 : decode cX10_make 11 = .ok (.ireturn, 1) := by decide +kernel
theorem dX10_make_12 : decode cX10_make 12 = .ok (.aload_n 0, 1) := by decide +kernel
theorem dX10_make_13 : decode cX10_make 13 = .ok (.getfield 59, 3) := by decide +kernel
theorem dX10_make_16 : decode cX10_make 16 = .ok (.istore_n 3, 1) := by decide +kernel
theorem dX10_make_17 : decode cX10_make 17 = .ok (.aload_n 0, 1) := by decide +kernel
theorem dX10_make_18 : decode cX10_make 18 = .ok (.getfield 9, 3) := by decide +kernel
theorem dX10_make_21 : decode cX10_make 21 = .ok (.iload_n 3, 1) := by decide +kernel
theorem dX10_make_22 : decode cX10_make 22 = .ok (.iload_n 1, 1) := by decide +kernel
theorem dX10_make_23 : decode cX10_make 23 = .ok (.iastore, 1) := by decide +kernel
theorem dX10_make_24 : decode cX10_make 24 = .ok (.aload_n 0, 1) := by decide +kernel
theorem dX10_make_25 : decode cX10_make 25 = .ok (.getfield 15, 3) := by decide +kernel
theorem dX10_make_28 : decode cX10_make 28 = .ok (.iload_n 3, 1) := by decide +kernel
theorem dX10_make_29 : decode cX10_make 29 = .ok (.iload_n 2, 1) := by decide +kernel
theorem dX10_make_30 : decode cX10_make 30 = .ok (.iastore, 1) := by decide +kernel
theorem dX10_make_31 : decode cX10_make 31 = .ok (.aload_n 0, 1) := by decide +kernel
theorem dX10_make_32 : decode cX10_make 32 = .ok (.getfield 18, 3) := by decide +kernel
theorem dX10_make_35 : decode cX10_make 35 = .ok (.iload_n 3, 1) := by decide +kernel
theorem dX10_make_36 : decode cX10_make 36 = .ok (.iconst 1, 1) := by decide +kernel
theorem dX10_make_37 : decode cX10_make 37 = .ok (.iastore, 1) := by decide +kernel
theorem dX10_make_38 : decode cX10_make 38 = .ok (.aload_n 0, 1) := by decide +kernel
theorem dX10_make_39 : decode cX10_make 39 = .ok (.getfield 21, 3) := by decide +kernel
theorem dX10_make_42 : decode cX10_make 42 = .ok (.iload_n 3, 1) := by decide +kernel
theorem dX10_make_43 : decode cX10_make 43 = .ok (.iload_n 1, 1) := by decide +kernel
theorem dX10_make_44 : decode cX10_make 44 = .ok (.iconst 4, 1) := by decide +kernel
theorem dX10_make_45 : decode cX10_make 45 = .ok (.if_icmp .ne 7, 3) := by decide +kernel
theorem dX10_make_48 : decode cX10_make 48 = .ok (.iconst 1, 1) := by decide +kernel
theorem dX10_make_49 : decode cX10_make 49 = .ok (.goto 4, 3) := by decide +kernel
theorem dX10_make_52 : decode cX10_make 52 = .ok (.iconst 0, 1) := by decide +kernel
theorem dX10_make_53 : decode cX10_make 53 = .ok (.bastore, 1) := by decide +kernel
theorem dX10_make_54 : decode cX10_make 54 = .ok (.aload_n 0, 1) := by decide +kernel
theorem dX10_make_55 : decode cX10_make 55 = .ok (.getfield 25, 3) := by decide +kernel
theorem dX10_make_58 : decode cX10_make 58 = .ok (.iload_n 3, 1) := by decide +kernel
theorem dX10_make_59 : decode cX10_make 59 = .ok (.iconst 0, 1) := by decide +kernel
theorem dX10_make_60 : decode cX10_make 60 = .ok (.iastore, 1) := by decide +kernel
theorem dX10_make_61 : decode cX10_make 61 = .ok (.aload_n 0, 1) := by decide +kernel
theorem dX10_make_62 : decode cX10_make 62 = .ok (.getfield 28, 3) := by decide +kernel
theorem dX10_make_65 : decode cX10_make 65 = .ok (.iload_n 3, 1) := by decide +kernel
theorem dX10_make_66 : decode cX10_make 66 = .ok (.iconst 0, 1) := by decide +kernel
theorem dX10_make_67 : decode cX10_make 67 = .ok (.iastore, 1) := by decide +kernel
theorem dX10_make_68 : decode cX10_make 68 = .ok (.aload_n 0, 1) := by decide +kernel
theorem dX10_make_69 : decode cX10_make 69 = .ok (.getfield 31, 3) := by decide +kernel
theorem dX10_make_72 : decode cX10_make 72 = .ok (.iload_n 3, 1) := by decide +kernel
theorem dX10_make_73 : decode cX10_make 73 = .ok (.iconst 0, 1) := by decide +kernel
theorem dX10_make_74 : decode cX10_make 74 = .ok (.iastore, 1) := by decide +kernel
theorem dX10_make_75 : decode cX10_make 75 = .ok (.aload_n 0, 1) := by decide +kernel
theorem dX10_make_76 : decode cX10_make 76 = .ok (.dup, 1) := by decide +kernel
theorem dX10_make_77 : decode cX10_make 77 = .ok (.getfield 59, 3) := by decide +kernel
theorem dX10_make_80 : decode cX10_make 80 = .ok (.iconst 1, 1) := by decide +kernel
theorem dX10_make_81 : decode cX10_make 81 = .ok (.iadd, 1) := by decide +kernel
theorem dX10_make_82 : decode cX10_make 82 = .ok (.putfield 59, 3) := by decide +kernel
theorem dX10_make_85 : decode cX10_make 85 = .ok (.iload_n 3, 1) := by decide +kernel
theorem dX10_make_86 : decode cX10_make 86 = .ok (.ireturn, 1) := by decide +kernel
theorem dX10_measure_0 : decode cX10_measure 0 = .ok (.iconst 0, 1) := by decide +kernel
theorem dX10_measure_1 : decode cX10_measure 1 = .ok (.istore_n 1, 1) := by decide +kernel
theorem dX10_measure_2 : decode cX10_measure 2 = .ok (.iload_n 1, 1) := by decide +kernel
theorem dX10_measure_3 : decode cX10_measure 3 = .ok (.aload_n 0, 1) := by decide +kernel
theorem dX10_measure_4 : decode cX10_measure 4 = .ok (.getfield 55, 3) := by decide +kernel
theorem dX10_measure_7 : decode cX10_measure 7 = .ok (.if_icmp .ge 41, 3) := by decide +kernel
theorem dX10_measure_10 : decode cX10_measure 10 = .ok (.iconst 0, 1) := by decide +kernel
theorem dX10_measure_11 : decode cX10_measure 11 = .ok (.istore_n 2, 1) := by decide +kernel
theorem dX10_measure_12 : decode cX10_measure 12 = .ok (.iload_n 2, 1) := by decide +kernel
theorem dX10_measure_13 : decode cX10_measure 13 = .ok (.aload_n 0, 1) := by decide +kernel
theorem dX10_measure_14 : decode cX10_measure 14 = .ok (.getfield 55, 3) := by decide +kernel
theorem dX10_measure_17 : decode cX10_measure 17 = .ok (.if_icmp .ge 25, 3) := by decide +kernel
theorem dX10_measure_20 : decode cX10_measure 20 = .ok (.aload_n 0, 1) := by decide +kernel
theorem dX10_measure_21 : decode cX10_measure 21 = .ok (.getfield 18, 3) := by decide +kernel
theorem dX10_measure_24 : decode cX10_measure 24 = .ok (.iconst 4, 1) := by decide +kernel
theorem dX10_measure_25 : decode cX10_measure 25 = .ok (.iload_n 2, 1) := by decide +kernel
theorem dX10_measure_26 : decode cX10_measure 26 = .ok (.iadd, 1) := by decide +kernel
theorem dX10_measure_27 : decode cX10_measure 27 = .ok (.iaload, 1) := by decide +kernel
theorem dX10_measure_28 : decode cX10_measure 28 = .ok (.ifCond .ne 8, 3) := by decide +kernel
theorem dX10_measure_31 : decode cX10_measure 31 = .ok (.aload_n 0, 1) := by decide +kernel
theorem dX10_measure_32 : decode cX10_measure 32 = .ok (.iload_n 2, 1) := by decide +kernel
theorem dX10_measure_33 : decode cX10_measure 33 = .ok (.invokevirtual 66, 3) := by decide +kernel
theorem dX10_measure_36 : decode cX10_measure 36 = .ok (.iinc 2 1, 3) := by decide +kernel
theorem dX10_measure_39 : decode cX10_measure 39 = .ok (.goto (-27), 3) := by decide +kernel
theorem dX10_measure_42 : decode cX10_measure 42 = .ok (.iinc 1 1, 3) := by decide +kernel
theorem dX10_measure_45 : decode cX10_measure 45 = .ok (.goto (-43), 3) := by decide +kernel
theorem dX10_measure_48 : decode cX10_measure 48 = .ok (.return_, 1) := by decide +kernel
theorem dX1_init_0 : decode cX1_init 0 = .ok (.aload_n 0, 1) := by decide +kernel
theorem dX1_init_1 : decode cX1_init 1 = .ok (.invokespecial 3, 3) := by decide +kernel
theorem dX1_init_4 : decode cX1_init 4 = .ok (.aload_n 0, 1) := by decide +kernel
theorem dX1_init_5 : decode cX1_init 5 = .ok (.bipush 40, 2) := by decide +kernel
theorem dX1_init_7 : decode cX1_init 7 = .ok (.anewarray 9, 3) := by decide +kernel
theorem dX1_init_10 : decode cX1_init 10 = .ok (.putfield 11, 3) := by decide +kernel
theorem dX1_init_13 : decode cX1_init 13 = .ok (.aload_n 0, 1) := by decide +kernel
theorem dX1_init_14 : decode cX1_init 14 = .ok (.sipush 3020, 3) := by decide +kernel
theorem dX1_init_17 : decode cX1_init 17 = .ok (.newarray .int, 2) := by decide +kernel
theorem dX1_init_19 : decode cX1_init 19 = .ok (.putfield 17, 3) := by decide +kernel
theorem dX1_init_22 : decode cX1_init 22 = .ok (.aload_n 0, 1) := by decide +kernel
theorem dX1_init_23 : decode cX1_init 23 = .ok (.aload_n 1, 1) := by decide +kernel
theorem dX1_init_24 : decode cX1_init 24 = .ok (.putfield 21, 3) := by decide +kernel
theorem dX1_init_27 : decode cX1_init 27 = .ok (.aload_n 0, 1) := by decide +kernel
theorem dX1_init_28 : decode cX1_init 28 = .ok (.aload_n 2, 1) := by decide +kernel
theorem dX1_init_29 : decode cX1_init 29 = .ok (.putfield 25, 3) := by decide +kernel
theorem dX1_init_32 : decode cX1_init 32 = .ok (.iconst 0, 1) := by decide +kernel
theorem dX1_init_33 : decode cX1_init 33 = .ok (.istore_n 3, 1) := by decide +kernel
theorem dX1_init_34 : decode cX1_init 34 = .ok (.iload_n 3, 1) := by decide +kernel
theorem dX1_init_35 : decode cX1_init 35 = .ok (.bipush 40, 2) := by decide +kernel
theorem dX1_init_37 : decode cX1_init 37 = .ok (.if_icmp .ge 22, 3) := by decide +kernel
theorem dX1_init_40 : decode cX1_init 40 = .ok (.aload_n 0, 1) := by decide +kernel
theorem dX1_init_41 : decode cX1_init 41 = .ok (.getfield 11, 3) := by decide +kernel
theorem dX1_init_44 : decode cX1_init 44 = .ok (.iload_n 3, 1) := by decide +kernel
theorem dX1_init_45 : decode cX1_init 45 = .ok (.new 9, 3) := by decide +kernel
theorem dX1_init_48 : decode cX1_init 48 = .ok (.dup, 1) := by decide +kernel
theorem dX1_init_49 : decode cX1_init 49 = .ok (.invokespecial 29, 3) := by decide +kernel
theorem dX1_init_52 : decode cX1_init 52 = .ok (.aastore, 1) := by decide +kernel
theorem dX1_init_53 : decode cX1_init 53 = .ok (.iinc 3 1, 3) := by decide +kernel
theorem dX1_init_56 : decode cX1_init 56 = .ok (.goto (-22), 3) := by decide +kernel
theorem dX1_init_59 : decode cX1_init 59 = .ok (.return_, 1) := by decide +kernel
theorem dX1_read_0 : decode cX1_read 0 = .ok (.aload_n 0, 1) := by decide +kernel
theorem dX1_read_1 : decode cX1_read 1 = .ok (.iconst 0, 1) := by decide +kernel
theorem dX1_read_2 : decode cX1_read 2 = .ok (.putfield 30, 3) := by decide +kernel
theorem dX1_read_5 : decode cX1_read 5 = .ok (.aload_n 0, 1) := by decide +kernel
theorem dX1_read_6 : decode cX1_read 6 = .ok (.getfield 25, 3) := by decide +kernel
theorem dX1_read_9 : decode cX1_read 9 = .ok (.invokevirtual 34, 3) := by decide +kernel
theorem dX1_read_12 : decode cX1_read 12 = .ok (.aload_n 0, 1) := by decide +kernel
theorem dX1_read_13 : decode cX1_read 13 = .ok (.getfield 17, 3) := by decide +kernel
theorem dX1_read_16 : decode cX1_read 16 = .ok (.iconst 0, 1) := by decide +kernel
theorem dX1_read_17 : decode cX1_read 17 = .ok (.aload_n 0, 1) := by decide +kernel
theorem dX1_read_18 : decode cX1_read 18 = .ok (.getfield 21, 3) := by decide +kernel
theorem dX1_read_21 : decode cX1_read 21 = .ok (.getfield 39, 3) := by decide +kernel
theorem dX1_read_24 : decode cX1_read 24 = .ok (.iconst 0, 1) := by decide +kernel
theorem dX1_read_25 : decode cX1_read 25 = .ok (.invokestatic 44, 3) := by decide +kernel
theorem dX1_read_28 : decode cX1_read 28 = .ok (.iconst 0, 1) := by decide +kernel
theorem dX1_read_29 : decode cX1_read 29 = .ok (.istore_n 2, 1) := by decide +kernel
theorem dX1_read_30 : decode cX1_read 30 = .ok (.iload_n 2, 1) := by decide +kernel
theorem dX1_read_31 : decode cX1_read 31 = .ok (.aload_n 1, 1) := by decide +kernel
theorem dX1_read_32 : decode cX1_read 32 = .ok (.getfield 50, 3) := by decide +kernel
theorem dX1_read_35 : decode cX1_read 35 = .ok (.if_icmp .ge 29, 3) := by decide +kernel
theorem dX1_read_38 : decode cX1_read 38 = .ok (.aload_n 0, 1) := by decide +kernel
theorem dX1_read_39 : decode cX1_read 39 = .ok (.getfield 21, 3) := by decide +kernel
theorem dX1_read_42 : decode cX1_read 42 = .ok (.getfield 53, 3) := by decide +kernel
theorem dX1_read_45 : decode cX1_read 45 = .ok (.ifCond .ne 19, 3) := by decide +kernel
theorem dX1_read_48 : decode cX1_read 48 = .ok (.aload_n 0, 1) := by decide +kernel
theorem dX1_read_49 : decode cX1_read 49 = .ok (.aload_n 1, 1) := by decide +kernel
theorem dX1_read_50 : decode cX1_read 50 = .ok (.getfield 56, 3) := by decide +kernel
theorem dX1_read_53 : decode cX1_read 53 = .ok (.iload_n 2, 1) := by decide +kernel
theorem dX1_read_54 : decode cX1_read 54 = .ok (.iaload, 1) := by decide +kernel
theorem dX1_read_55 : decode cX1_read 55 = .ok (.invokevirtual 59, 3) := by decide +kernel
theorem dX1_read_58 : decode cX1_read 58 = .ok (.iinc 2 1, 3) := by decide +kernel
theorem dX1_read_61 : decode cX1_read 61 = .ok (.goto (-31), 3) := by decide +kernel
theorem dX1_read_64 : decode cX1_read 64 = .ok (.iconst 0, 1) := by decide +kernel
theorem dX1_read_65 : decode cX1_read 65 = .ok (.istore_n 2, 1) := by decide +kernel
theorem dX1_read_66 : decode cX1_read 66 = .ok (.iload_n 2, 1) := by decide +kernel
theorem dX1_read_67 : decode cX1_read 67 = .ok (.aload_n 1, 1) := by decide +kernel
theorem dX1_read_68 : decode cX1_read 68 = .ok (.getfield 50, 3) := by decide +kernel
theorem dX1_read_71 : decode cX1_read 71 = .ok (.if_icmp .ge 29, 3) := by decide +kernel
theorem dX1_read_74 : decode cX1_read 74 = .ok (.aload_n 0, 1) := by decide +kernel
theorem dX1_read_75 : decode cX1_read 75 = .ok (.getfield 21, 3) := by decide +kernel
theorem dX1_read_78 : decode cX1_read 78 = .ok (.getfield 53, 3) := by decide +kernel
theorem dX1_read_81 : decode cX1_read 81 = .ok (.ifCond .ne 19, 3) := by decide +kernel
theorem dX1_read_84 : decode cX1_read 84 = .ok (.aload_n 0, 1) := by decide +kernel
theorem dX1_read_85 : decode cX1_read 85 = .ok (.aload_n 1, 1) := by decide +kernel
theorem dX1_read_86 : decode cX1_read 86 = .ok (.getfield 56, 3) := by decide +kernel
theorem dX1_read_89 : decode cX1_read 89 = .ok (.iload_n 2, 1) := by decide +kernel
theorem dX1_read_90 : decode cX1_read 90 = .ok (.iaload, 1) := by decide +kernel
theorem dX1_read_91 : decode cX1_read 91 = .ok (.invokevirtual 63, 3) := by decide +kernel
theorem dX1_read_94 : decode cX1_read 94 = .ok (.iinc 2 1, 3) := by decide +kernel
theorem dX1_read_97 : decode cX1_read 97 = .ok (.goto (-31), 3) := by decide +kernel
theorem dX1_read_100 : decode cX1_read 100 = .ok (.aload_n 0, 1) := by decide +kernel
theorem dX1_read_101 : decode cX1_read 101 = .ok (.getfield 21, 3) := by decide +kernel
theorem dX1_read_104 : decode cX1_read 104 = .ok (.getfield 53, 3) := by decide +kernel
theorem dX1_read_107 : decode cX1_read 107 = .ok (.ifCond .ne 14, 3) := by decide +kernel
theorem dX1_read_110 : decode cX1_read 110 = .ok (.aload_n 0, 1) := by decide +kernel
theorem dX1_read_111 : decode cX1_read 111 = .ok (.getfield 25, 3) := by decide +kernel
theorem dX1_read_114 : decode cX1_read 114 = .ok (.invokevirtual 66, 3) := by decide +kernel
theorem dX1_read_117 : decode cX1_read 117 = .ok (.aload_n 0, 1) := by decide +kernel
theorem dX1_read_118 : decode cX1_read 118 = .ok (.invokevirtual 69, 3) := by decide +kernel
theorem dX1_read_121 : decode cX1_read 121 = .ok (.aload_n 0, 1) := by decide +kernel
theorem dX1_read_122 : decode cX1_read 122 = .ok (.getfield 21, 3) := by decide +kernel
theorem dX1_read_125 : decode cX1_read 125 = .ok (.getfield 53, 3) := by decide +kernel
theorem dX1_read_128 : decode cX1_read 128 = .ok (.ifCond .ne 7, 3) := by decide +kernel
theorem dX1_read_131 : decode cX1_read 131 = .ok (.aload_n 0, 1) := by decide +kernel
theorem dX1_read_132 : decode cX1_read 132 = .ok (.invokevirtual 72, 3) := by decide +kernel
theorem dX1_read_135 : decode cX1_read 135 = .ok (.return_, 1) := by decide +kernel
theorem dX1_functionOf_0 : decode cX1_functionOf 0 = .ok (.aload_n 0, 1) := by decide +kernel
theorem dX1_functionOf_1 : decode cX1_functionOf 1 = .ok (.getfield 17, 3) := by decide +kernel
theorem dX1_functionOf_4 : decode cX1_functionOf 4 = .ok (.iload_n 1, 1) := by decide +kernel
theorem dX1_functionOf_5 : decode cX1_functionOf 5 = .ok (.iaload, 1) := by decide +kernel
theorem dX1_functionOf_6 : decode cX1_functionOf 6 = .ok (.ifCond .ge 15, 3) := by decide +kernel
theorem dX1_functionOf_9 : decode cX1_functionOf 9 = .ok (.aload_n 0, 1) := by decide +kernel
theorem dX1_functionOf_10 : decode cX1_functionOf 10 = .ok (.getfield 17, 3) := by decide +kernel
theorem dX1_functionOf_13 : decode cX1_functionOf 13 = .ok (.iload_n 1, 1) := by decide +kernel
theorem dX1_functionOf_14 : decode cX1_functionOf 14 = .ok (.iaload, 1) := by decide +kernel
theorem dX1_functionOf_15 : decode cX1_functionOf 15 = .ok (.ineg, 1) := by decide +kernel
theorem dX1_functionOf_16 : decode cX1_functionOf 16 = .ok (.iconst 1, 1) := by decide +kernel
theorem dX1_functionOf_17 : decode cX1_functionOf 17 = .ok (.isub, 1) := by decide +kernel
theorem dX1_functionOf_18 : decode cX1_functionOf 18 = .ok (.goto 4, 3) := by decide +kernel
theorem dX1_functionOf_21 : decode cX1_functionOf 21 = .ok (.iconst (-1), 1) := by decide +kernel
theorem dX1_functionOf_22 : decode cX1_functionOf 22 = .ok (.ireturn, 1) := by decide +kernel
theorem dX1_checkSizes_0 : decode cX1_checkSizes 0 = .ok (.iconst 0, 1) := by decide +kernel
theorem dX1_checkSizes_1 : decode cX1_checkSizes 1 = .ok (.istore_n 1, 1) := by decide +kernel
theorem dX1_checkSizes_2 : decode cX1_checkSizes 2 = .ok (.iload_n 1, 1) := by decide +kernel
theorem dX1_checkSizes_3 : decode cX1_checkSizes 3 = .ok (.aload_n 0, 1) := by decide +kernel
theorem dX1_checkSizes_4 : decode cX1_checkSizes 4 = .ok (.getfield 25, 3) := by decide +kernel
theorem dX1_checkSizes_7 : decode cX1_checkSizes 7 = .ok (.getfield 207, 3) := by decide +kernel
theorem dX1_checkSizes_10 : decode cX1_checkSizes 10 = .ok (.if_icmp .ge 56, 3) := by decide +kernel
theorem dX1_checkSizes_13 : decode cX1_checkSizes 13 = .ok (.aload_n 0, 1) := by decide +kernel
theorem dX1_checkSizes_14 : decode cX1_checkSizes 14 = .ok (.getfield 25, 3) := by decide +kernel
theorem dX1_checkSizes_17 : decode cX1_checkSizes 17 = .ok (.getfield 210, 3) := by decide +kernel
theorem dX1_checkSizes_20 : decode cX1_checkSizes 20 = .ok (.iconst 4, 1) := by decide +kernel
theorem dX1_checkSizes_21 : decode cX1_checkSizes 21 = .ok (.iload_n 1, 1) := by decide +kernel
theorem dX1_checkSizes_22 : decode cX1_checkSizes 22 = .ok (.iadd, 1) := by decide +kernel
theorem dX1_checkSizes_23 : decode cX1_checkSizes 23 = .ok (.iaload, 1) := by decide +kernel
theorem dX1_checkSizes_24 : decode cX1_checkSizes 24 = .ok (.istore_n 2, 1) := by decide +kernel
theorem dX1_checkSizes_25 : decode cX1_checkSizes 25 = .ok (.iload_n 2, 1) := by decide +kernel
theorem dX1_checkSizes_26 : decode cX1_checkSizes 26 = .ok (.ifCond .eq 9, 3) := by decide +kernel
theorem dX1_checkSizes_29 : decode cX1_checkSizes 29 = .ok (.iload_n 2, 1) := by decide +kernel
theorem dX1_checkSizes_30 : decode cX1_checkSizes 30 = .ok (.bipush 16, 2) := by decide +kernel
theorem dX1_checkSizes_32 : decode cX1_checkSizes 32 = .ok (.if_icmp .le 28, 3) := by decide +kernel
theorem dX1_checkSizes_35 : decode cX1_checkSizes 35 = .ok (.aload_n 0, 1) := by decide +kernel
theorem dX1_checkSizes_36 : decode cX1_checkSizes 36 = .ok (.getfield 21, 3) := by decide +kernel
theorem dX1_checkSizes_39 : decode cX1_checkSizes 39 = .ok (.iconst 4, 1) := by decide +kernel
theorem dX1_checkSizes_40 : decode cX1_checkSizes 40 = .ok (.aload_n 0, 1) := by decide +kernel
theorem dX1_checkSizes_41 : decode cX1_checkSizes 41 = .ok (.getfield 21, 3) := by decide +kernel
theorem dX1_checkSizes_44 : decode cX1_checkSizes 44 = .ok (.getfield 85, 3) := by decide +kernel
theorem dX1_checkSizes_47 : decode cX1_checkSizes 47 = .ok (.aload_n 0, 1) := by decide +kernel
theorem dX1_checkSizes_48 : decode cX1_checkSizes 48 = .ok (.getfield 25, 3) := by decide +kernel
theorem dX1_checkSizes_51 : decode cX1_checkSizes 51 = .ok (.getfield 213, 3) := by decide +kernel
theorem dX1_checkSizes_54 : decode cX1_checkSizes 54 = .ok (.iload_n 1, 1) := by decide +kernel
theorem dX1_checkSizes_55 : decode cX1_checkSizes 55 = .ok (.iaload, 1) := by decide +kernel
theorem dX1_checkSizes_56 : decode cX1_checkSizes 56 = .ok (.iaload, 1) := by decide +kernel
theorem dX1_checkSizes_57 : decode cX1_checkSizes 57 = .ok (.invokevirtual 88, 3) := by decide +kernel
theorem dX1_checkSizes_60 : decode cX1_checkSizes 60 = .ok (.iinc 1 1, 3) := by decide +kernel
theorem dX1_checkSizes_63 : decode cX1_checkSizes 63 = .ok (.goto (-61), 3) := by decide +kernel
theorem dX1_checkSizes_66 : decode cX1_checkSizes 66 = .ok (.return_, 1) := by decide +kernel
theorem dX1_checkMain_0 : decode cX1_checkMain 0 = .ok (.aload_n 0, 1) := by decide +kernel
theorem dX1_checkMain_1 : decode cX1_checkMain 1 = .ok (.aload_n 0, 1) := by decide +kernel
theorem dX1_checkMain_2 : decode cX1_checkMain 2 = .ok (.bipush 19, 2) := by decide +kernel
theorem dX1_checkMain_4 : decode cX1_checkMain 4 = .ok (.invokevirtual 216, 3) := by decide +kernel
theorem dX1_checkMain_7 : decode cX1_checkMain 7 = .ok (.putfield 219, 3) := by decide +kernel
theorem dX1_checkMain_10 : decode cX1_checkMain 10 = .ok (.aload_n 0, 1) := by decide +kernel
theorem dX1_checkMain_11 : decode cX1_checkMain 11 = .ok (.getfield 219, 3) := by decide +kernel
theorem dX1_checkMain_14 : decode cX1_checkMain 14 = .ok (.ifCond .ge 29, 3) := by decide +kernel
theorem dX1_checkMain_17 : decode cX1_checkMain 17 = .ok (.aload_n 0, 1) := by decide +kernel
theorem dX1_checkMain_18 : decode cX1_checkMain 18 = .ok (.getfield 21, 3) := by decide +kernel
theorem dX1_checkMain_21 : decode cX1_checkMain 21 = .ok (.sipush 3002, 3) := by decide +kernel
theorem dX1_checkMain_24 : decode cX1_checkMain 24 = .ok (.invokevirtual 105, 3) := by decide +kernel
theorem dX1_checkMain_27 : decode cX1_checkMain 27 = .ok (.aload_n 0, 1) := by decide +kernel
theorem dX1_checkMain_28 : decode cX1_checkMain 28 = .ok (.getfield 21, 3) := by decide +kernel
theorem dX1_checkMain_31 : decode cX1_checkMain 31 = .ok (.iconst 3, 1) := by decide +kernel
theorem dX1_checkMain_32 : decode cX1_checkMain 32 = .ok (.aload_n 0, 1) := by decide +kernel
theorem dX1_checkMain_33 : decode cX1_checkMain 33 = .ok (.getfield 21, 3) := by decide +kernel
theorem dX1_checkMain_36 : decode cX1_checkMain 36 = .ok (.invokevirtual 130, 3) := by decide +kernel
theorem dX1_checkMain_39 : decode cX1_checkMain 39 = .ok (.invokevirtual 88, 3) := by decide +kernel
theorem dX1_checkMain_42 : decode cX1_checkMain 42 = .ok (.return_, 1) := by decide +kernel
theorem dX1_checkMain_43 : decode cX1_checkMain 43 = .ok (.aload_n 0, 1) := by decide +kernel
theorem dX1_checkMain_44 : decode cX1_checkMain 44 = .ok (.getfield 11, 3) := by decide +kernel
theorem dX1_checkMain_47 : decode cX1_checkMain 47 = .ok (.aload_n 0, 1) := by decide +kernel
theorem dX1_checkMain_48 : decode cX1_checkMain 48 = .ok (.getfield 219, 3) := by decide +kernel
theorem dX1_checkMain_51 : decode cX1_checkMain 51 = .ok (.aaload, 1) := by decide +kernel
theorem dX1_checkMain_52 : decode cX1_checkMain 52 = .ok (.astore_n 1, 1) := by decide +kernel
theorem dX1_checkMain_53 : decode cX1_checkMain 53 = .ok (.aload_n 1, 1) := by decide +kernel
theorem dX1_checkMain_54 : decode cX1_checkMain 54 = .ok (.getfield 172, 3) := by decide +kernel
theorem dX1_checkMain_57 : decode cX1_checkMain 57 = .ok (.ifCond .gt 17, 3) := by decide +kernel
theorem dX1_checkMain_60 : decode cX1_checkMain 60 = .ok (.aload_n 1, 1) := by decide +kernel
theorem dX1_checkMain_61 : decode cX1_checkMain 61 = .ok (.getfield 188, 3) := by decide +kernel
theorem dX1_checkMain_64 : decode cX1_checkMain 64 = .ok (.ifCond .gt 10, 3) := by decide +kernel
theorem dX1_checkMain_67 : decode cX1_checkMain 67 = .ok (.aload_n 1, 1) := by decide +kernel
theorem dX1_checkMain_68 : decode cX1_checkMain 68 = .ok (.getfield 153, 3) := by decide +kernel
theorem dX1_checkMain_71 : decode cX1_checkMain 71 = .ok (.ifCond .eq 23, 3) := by decide +kernel
theorem dX1_checkMain_74 : decode cX1_checkMain 74 = .ok (.aload_n 0, 1) := by decide +kernel
theorem dX1_checkMain_75 : decode cX1_checkMain 75 = .ok (.getfield 21, 3) := by decide +kernel
theorem dX1_checkMain_78 : decode cX1_checkMain 78 = .ok (.iconst 4, 1) := by decide +kernel
theorem dX1_checkMain_79 : decode cX1_checkMain 79 = .ok (.aload_n 0, 1) := by decide +kernel
theorem dX1_checkMain_80 : decode cX1_checkMain 80 = .ok (.getfield 21, 3) := by decide +kernel
theorem dX1_checkMain_83 : decode cX1_checkMain 83 = .ok (.getfield 85, 3) := by decide +kernel
theorem dX1_checkMain_86 : decode cX1_checkMain 86 = .ok (.aload_n 1, 1) := by decide +kernel
theorem dX1_checkMain_87 : decode cX1_checkMain 87 = .ok (.getfield 222, 3) := by decide +kernel
theorem dX1_checkMain_90 : decode cX1_checkMain 90 = .ok (.iaload, 1) := by decide +kernel
theorem dX1_checkMain_91 : decode cX1_checkMain 91 = .ok (.invokevirtual 88, 3) := by decide +kernel
theorem dX1_checkMain_94 : decode cX1_checkMain 94 = .ok (.return_, 1) := by decide +kernel
theorem dX2_init_0 : decode cX2_init 0 = .ok (.aload_n 0, 1) := by decide +kernel
theorem dX2_init_1 : decode cX2_init 1 = .ok (.invokespecial 3, 3) := by decide +kernel
theorem dX2_init_4 : decode cX2_init 4 = .ok (.aload_n 0, 1) := by decide +kernel
theorem dX2_init_5 : decode cX2_init 5 = .ok (.bipush 8, 2) := by decide +kernel
theorem dX2_init_7 : decode cX2_init 7 = .ok (.newarray .int, 2) := by decide +kernel
theorem dX2_init_9 : decode cX2_init 9 = .ok (.putfield 9, 3) := by decide +kernel
theorem dX2_init_12 : decode cX2_init 12 = .ok (.aload_n 0, 1) := by decide +kernel
theorem dX2_init_13 : decode cX2_init 13 = .ok (.bipush 12, 2) := by decide +kernel
theorem dX2_init_15 : decode cX2_init 15 = .ok (.newarray .int, 2) := by decide +kernel
theorem dX2_init_17 : decode cX2_init 17 = .ok (.putfield 15, 3) := by decide +kernel
theorem dX2_init_20 : decode cX2_init 20 = .ok (.aload_n 0, 1) := by decide +kernel
theorem dX2_init_21 : decode cX2_init 21 = .ok (.bipush 40, 2) := by decide +kernel
theorem dX2_init_23 : decode cX2_init 23 = .ok (.newarray .int, 2) := by decide +kernel
theorem dX2_init_25 : decode cX2_init 25 = .ok (.putfield 18, 3) := by decide +kernel
theorem dX2_init_28 : decode cX2_init 28 = .ok (.aload_n 0, 1) := by decide +kernel
theorem dX2_init_29 : decode cX2_init 29 = .ok (.bipush 40, 2) := by decide +kernel
theorem dX2_init_31 : decode cX2_init 31 = .ok (.newarray .int, 2) := by decide +kernel
theorem dX2_init_33 : decode cX2_init 33 = .ok (.putfield 21, 3) := by decide +kernel
theorem dX2_init_36 : decode cX2_init 36 = .ok (.aload_n 0, 1) := by decide +kernel
theorem dX2_init_37 : decode cX2_init 37 = .ok (.bipush 40, 2) := by decide +kernel
theorem dX2_init_39 : decode cX2_init 39 = .ok (.newarray .boolean, 2) := by decide +kernel
theorem dX2_init_41 : decode cX2_init 41 = .ok (.putfield 24, 3) := by decide +kernel
theorem dX2_init_44 : decode cX2_init 44 = .ok (.aload_n 0, 1) := by decide +kernel
theorem dX2_init_45 : decode cX2_init 45 = .ok (.bipush 40, 2) := by decide +kernel
theorem dX2_init_47 : decode cX2_init 47 = .ok (.newarray .int, 2) := by decide +kernel
theorem dX2_init_49 : decode cX2_init 49 = .ok (.putfield 28, 3) := by decide +kernel
theorem dX2_init_52 : decode cX2_init 52 = .ok (.aload_n 0, 1) := by decide +kernel
theorem dX2_init_53 : decode cX2_init 53 = .ok (.bipush 40, 2) := by decide +kernel
theorem dX2_init_55 : decode cX2_init 55 = .ok (.newarray .int, 2) := by decide +kernel
theorem dX2_init_57 : decode cX2_init 57 = .ok (.putfield 31, 3) := by decide +kernel
theorem dX2_init_60 : decode cX2_init 60 = .ok (.aload_n 0, 1) := by decide +kernel
theorem dX2_init_61 : decode cX2_init 61 = .ok (.bipush 40, 2) := by decide +kernel
end
section
theorem dX2_init_63 : decode cX2_init 63 = .ok (.newarray .int, 2) := by decide +kernel
theorem dX2_init_65 : decode cX2_init 65 = .ok (.putfield 34, 3) := by decide +kernel
theorem dX2_init_68 : decode cX2_init 68 = .ok (.return_, 1) := by decide +kernel
theorem dX0_init_0 : decode cX0_init 0 = .ok (.aload_n 0, 1) := by decide +kernel
theorem dX0_init_1 : decode cX0_init 1 = .ok (.invokespecial 3, 3) := by decide +kernel
theorem dX0_init_4 : decode cX0_init 4 = .ok (.aload_n 0, 1) := by decide +kernel
theorem dX0_init_5 : decode cX0_init 5 = .ok (.sipush 6000, 3) := by decide +kernel
theorem dX0_init_8 : decode cX0_init 8 = .ok (.newarray .int, 2) := by decide +kernel
theorem dX0_init_10 : decode cX0_init 10 = .ok (.putfield 9, 3) := by decide +kernel
theorem dX0_init_13 : decode cX0_init 13 = .ok (.aload_n 0, 1) := by decide +kernel
theorem dX0_init_14 : decode cX0_init 14 = .ok (.sipush 6000, 3) := by decide +kernel
theorem dX0_init_17 : decode cX0_init 17 = .ok (.newarray .int, 2) := by decide +kernel
theorem dX0_init_19 : decode cX0_init 19 = .ok (.putfield 15, 3) := by decide +kernel
theorem dX0_init_22 : decode cX0_init 22 = .ok (.aload_n 0, 1) := by decide +kernel
theorem dX0_init_23 : decode cX0_init 23 = .ok (.sipush 6000, 3) := by decide +kernel
theorem dX0_init_26 : decode cX0_init 26 = .ok (.newarray .int, 2) := by decide +kernel
theorem dX0_init_28 : decode cX0_init 28 = .ok (.putfield 18, 3) := by decide +kernel
theorem dX0_init_31 : decode cX0_init 31 = .ok (.aload_n 0, 1) := by decide +kernel
theorem dX0_init_32 : decode cX0_init 32 = .ok (.sipush 6000, 3) := by decide +kernel
theorem dX0_init_35 : decode cX0_init 35 = .ok (.newarray .int, 2) := by decide +kernel
theorem dX0_init_37 : decode cX0_init 37 = .ok (.putfield 21, 3) := by decide +kernel
theorem dX0_init_40 : decode cX0_init 40 = .ok (.aload_n 0, 1) := by decide +kernel
theorem dX0_init_41 : decode cX0_init 41 = .ok (.sipush 6000, 3) := by decide +kernel
theorem dX0_init_44 : decode cX0_init 44 = .ok (.newarray .int, 2) := by decide +kernel
theorem dX0_init_46 : decode cX0_init 46 = .ok (.putfield 24, 3) := by decide +kernel
theorem dX0_init_49 : decode cX0_init 49 = .ok (.aload_n 0, 1) := by decide +kernel
theorem dX0_init_50 : decode cX0_init 50 = .ok (.sipush 1100, 3) := by decide +kernel
theorem dX0_init_53 : decode cX0_init 53 = .ok (.newarray .int, 2) := by decide +kernel
theorem dX0_init_55 : decode cX0_init 55 = .ok (.putfield 27, 3) := by decide +kernel
theorem dX0_init_58 : decode cX0_init 58 = .ok (.aload_n 0, 1) := by decide +kernel
theorem dX0_init_59 : decode cX0_init 59 = .ok (.sipush 3002, 3) := by decide +kernel
theorem dX0_init_62 : decode cX0_init 62 = .ok (.newarray .int, 2) := by decide +kernel
theorem dX0_init_64 : decode cX0_init 64 = .ok (.putfield 30, 3) := by decide +kernel
theorem dX0_init_67 : decode cX0_init 67 = .ok (.aload_n 0, 1) := by decide +kernel
theorem dX0_init_68 : decode cX0_init 68 = .ok (.sipush 3002, 3) := by decide +kernel
theorem dX0_init_71 : decode cX0_init 71 = .ok (.newarray .int, 2) := by decide +kernel
theorem dX0_init_73 : decode cX0_init 73 = .ok (.putfield 33, 3) := by decide +kernel
theorem dX0_init_76 : decode cX0_init 76 = .ok (.aload_n 0, 1) := by decide +kernel
theorem dX0_init_77 : decode cX0_init 77 = .ok (.sipush 3002, 3) := by decide +kernel
theorem dX0_init_80 : decode cX0_init 80 = .ok (.newarray .int, 2) := by decide +kernel
theorem dX0_init_82 : decode cX0_init 82 = .ok (.putfield 36, 3) := by decide +kernel
theorem dX0_init_85 : decode cX0_init 85 = .ok (.aload_n 0, 1) := by decide +kernel
theorem dX0_init_86 : decode cX0_init 86 = .ok (.sipush 3002, 3) := by decide +kernel
theorem dX0_init_89 : decode cX0_init 89 = .ok (.newarray .int, 2) := by decide +kernel
theorem dX0_init_91 : decode cX0_init 91 = .ok (.putfield 39, 3) := by decide +kernel
theorem dX0_init_94 : decode cX0_init 94 = .ok (.aload_n 0, 1) := by decide +kernel
theorem dX0_init_95 : decode cX0_init 95 = .ok (.sipush 3002, 3) := by decide +kernel
theorem dX0_init_98 : decode cX0_init 98 = .ok (.newarray .int, 2) := by decide +kernel
theorem dX0_init_100 : decode cX0_init 100 = .ok (.putfield 42, 3) := by decide +kernel
theorem dX0_init_103 : decode cX0_init 103 = .ok (.aload_n 0, 1) := by decide +kernel
theorem dX0_init_104 : decode cX0_init 104 = .ok (.sipush 3002, 3) := by decide +kernel
theorem dX0_init_107 : decode cX0_init 107 = .ok (.newarray .int, 2) := by decide +kernel
theorem dX0_init_109 : decode cX0_init 109 = .ok (.putfield 45, 3) := by decide +kernel
theorem dX0_init_112 : decode cX0_init 112 = .ok (.aload_n 0, 1) := by decide +kernel
theorem dX0_init_113 : decode cX0_init 113 = .ok (.sipush 3002, 3) := by decide +kernel
theorem dX0_init_116 : decode cX0_init 116 = .ok (.newarray .int, 2) := by decide +kernel
theorem dX0_init_118 : decode cX0_init 118 = .ok (.putfield 48, 3) := by decide +kernel
theorem dX0_init_121 : decode cX0_init 121 = .ok (.aload_n 0, 1) := by decide +kernel
theorem dX0_init_122 : decode cX0_init 122 = .ok (.sipush 3002, 3) := by decide +kernel
theorem dX0_init_125 : decode cX0_init 125 = .ok (.newarray .int, 2) := by decide +kernel
theorem dX0_init_127 : decode cX0_init 127 = .ok (.putfield 51, 3) := by decide +kernel
theorem dX0_init_130 : decode cX0_init 130 = .ok (.return_, 1) := by decide +kernel
theorem dX11_init_0 : decode cX11_init 0 = .ok (.aload_n 0, 1) := by decide +kernel
theorem dX11_init_1 : decode cX11_init 1 = .ok (.invokespecial 3, 3) := by decide +kernel
theorem dX11_init_4 : decode cX11_init 4 = .ok (.aload_n 0, 1) := by decide +kernel
theorem dX11_init_5 : decode cX11_init 5 = .ok (.aload_n 1, 1) := by decide +kernel
theorem dX11_init_6 : decode cX11_init 6 = .ok (.putfield 9, 3) := by decide +kernel
theorem dX11_init_9 : decode cX11_init 9 = .ok (.aload_n 0, 1) := by decide +kernel
theorem dX11_init_10 : decode cX11_init 10 = .ok (.aload_n 2, 1) := by decide +kernel
theorem dX11_init_11 : decode cX11_init 11 = .ok (.putfield 15, 3) := by decide +kernel
theorem dX11_init_14 : decode cX11_init 14 = .ok (.aload_n 0, 1) := by decide +kernel
theorem dX11_init_15 : decode cX11_init 15 = .ok (.aload_n 3, 1) := by decide +kernel
theorem dX11_init_16 : decode cX11_init 16 = .ok (.putfield 19, 3) := by decide +kernel
theorem dX11_init_19 : decode cX11_init 19 = .ok (.aload_n 0, 1) := by decide +kernel
theorem dX11_init_20 : decode cX11_init 20 = .ok (.aload 4, 2) := by decide +kernel
theorem dX11_init_22 : decode cX11_init 22 = .ok (.putfield 23, 3) := by decide +kernel
theorem dX11_init_25 : decode cX11_init 25 = .ok (.return_, 1) := by decide +kernel
theorem dX7_init_0 : decode cX7_init 0 = .ok (.aload_n 0, 1) := by decide +kernel
theorem dX7_init_1 : decode cX7_init 1 = .ok (.invokespecial 3, 3) := by decide +kernel
theorem dX7_init_4 : decode cX7_init 4 = .ok (.aload_n 0, 1) := by decide +kernel
theorem dX7_init_5 : decode cX7_init 5 = .ok (.bipush 40, 2) := by decide +kernel
theorem dX7_init_7 : decode cX7_init 7 = .ok (.newarray .int, 2) := by decide +kernel
theorem dX7_init_9 : decode cX7_init 9 = .ok (.putfield 9, 3) := by decide +kernel
theorem dX7_init_12 : decode cX7_init 12 = .ok (.aload_n 0, 1) := by decide +kernel
theorem dX7_init_13 : decode cX7_init 13 = .ok (.ldc 15, 2) := by decide +kernel
theorem dX7_init_15 : decode cX7_init 15 = .ok (.newarray .int, 2) := by decide +kernel
theorem dX7_init_17 : decode cX7_init 17 = .ok (.putfield 16, 3) := by decide +kernel
theorem dX7_init_20 : decode cX7_init 20 = .ok (.aload_n 0, 1) := by decide +kernel
theorem dX7_init_21 : decode cX7_init 21 = .ok (.sipush 1100, 3) := by decide +kernel
theorem dX7_init_24 : decode cX7_init 24 = .ok (.newarray .boolean, 2) := by decide +kernel
theorem dX7_init_26 : decode cX7_init 26 = .ok (.putfield 19, 3) := by decide +kernel
theorem dX7_init_29 : decode cX7_init 29 = .ok (.aload_n 0, 1) := by decide +kernel
theorem dX7_init_30 : decode cX7_init 30 = .ok (.aload_n 1, 1) := by decide +kernel
theorem dX7_init_31 : decode cX7_init 31 = .ok (.putfield 23, 3) := by decide +kernel
theorem dX7_init_34 : decode cX7_init 34 = .ok (.aload_n 0, 1) := by decide +kernel
theorem dX7_init_35 : decode cX7_init 35 = .ok (.aload_n 2, 1) := by decide +kernel
theorem dX7_init_36 : decode cX7_init 36 = .ok (.putfield 27, 3) := by decide +kernel
theorem dX7_init_39 : decode cX7_init 39 = .ok (.return_, 1) := by decide +kernel
theorem dX4_init_0 : decode cX4_init 0 = .ok (.aload_n 0, 1) := by decide +kernel
theorem dX4_init_1 : decode cX4_init 1 = .ok (.invokespecial 3, 3) := by decide +kernel
theorem dX4_init_4 : decode cX4_init 4 = .ok (.aload_n 0, 1) := by decide +kernel
theorem dX4_init_5 : decode cX4_init 5 = .ok (.sipush 6000, 3) := by decide +kernel
theorem dX4_init_8 : decode cX4_init 8 = .ok (.newarray .long, 2) := by decide +kernel
theorem dX4_init_10 : decode cX4_init 10 = .ok (.putfield 9, 3) := by decide +kernel
theorem dX4_init_13 : decode cX4_init 13 = .ok (.aload_n 0, 1) := by decide +kernel
theorem dX4_init_14 : decode cX4_init 14 = .ok (.sipush 1100, 3) := by decide +kernel
theorem dX4_init_17 : decode cX4_init 17 = .ok (.newarray .long, 2) := by decide +kernel
theorem dX4_init_19 : decode cX4_init 19 = .ok (.putfield 15, 3) := by decide +kernel
theorem dX4_init_22 : decode cX4_init 22 = .ok (.aload_n 0, 1) := by decide +kernel
theorem dX4_init_23 : decode cX4_init 23 = .ok (.bipush 40, 2) := by decide +kernel
theorem dX4_init_25 : decode cX4_init 25 = .ok (.newarray .long, 2) := by decide +kernel
theorem dX4_init_27 : decode cX4_init 27 = .ok (.putfield 18, 3) := by decide +kernel
theorem dX4_init_30 : decode cX4_init 30 = .ok (.aload_n 0, 1) := by decide +kernel
theorem dX4_init_31 : decode cX4_init 31 = .ok (.ldc 21, 2) := by decide +kernel
theorem dX4_init_33 : decode cX4_init 33 = .ok (.newarray .long, 2) := by decide +kernel
theorem dX4_init_35 : decode cX4_init 35 = .ok (.putfield 22, 3) := by decide +kernel
theorem dX4_init_38 : decode cX4_init 38 = .ok (.aload_n 0, 1) := by decide +kernel
theorem dX4_init_39 : decode cX4_init 39 = .ok (.sipush 1100, 3) := by decide +kernel
theorem dX4_init_42 : decode cX4_init 42 = .ok (.newarray .boolean, 2) := by decide +kernel
theorem dX4_init_44 : decode cX4_init 44 = .ok (.putfield 25, 3) := by decide +kernel
theorem dX4_init_47 : decode cX4_init 47 = .ok (.aload_n 0, 1) := by decide +kernel
theorem dX4_init_48 : decode cX4_init 48 = .ok (.sipush 512, 3) := by decide +kernel
theorem dX4_init_51 : decode cX4_init 51 = .ok (.newarray .long, 2) := by decide +kernel
theorem dX4_init_53 : decode cX4_init 53 = .ok (.putfield 29, 3) := by decide +kernel
theorem dX4_init_56 : decode cX4_init 56 = .ok (.aload_n 0, 1) := by decide +kernel
theorem dX4_init_57 : decode cX4_init 57 = .ok (.bipush 54, 2) := by decide +kernel
theorem dX4_init_59 : decode cX4_init 59 = .ok (.newarray .int, 2) := by decide +kernel
theorem dX4_init_61 : decode cX4_init 61 = .ok (.putfield 32, 3) := by decide +kernel
theorem dX4_init_64 : decode cX4_init 64 = .ok (.aload_n 0, 1) := by decide +kernel
theorem dX4_init_65 : decode cX4_init 65 = .ok (.bipush 54, 2) := by decide +kernel
theorem dX4_init_67 : decode cX4_init 67 = .ok (.newarray .long, 2) := by decide +kernel
theorem dX4_init_69 : decode cX4_init 69 = .ok (.putfield 36, 3) := by decide +kernel
theorem dX4_init_72 : decode cX4_init 72 = .ok (.aload_n 0, 1) := by decide +kernel
theorem dX4_init_73 : decode cX4_init 73 = .ok (.bipush 40, 2) := by decide +kernel
theorem dX4_init_75 : decode cX4_init 75 = .ok (.newarray .long, 2) := by decide +kernel
theorem dX4_init_77 : decode cX4_init 77 = .ok (.putfield 39, 3) := by decide +kernel
theorem dX4_init_80 : decode cX4_init 80 = .ok (.aload_n 0, 1) := by decide +kernel
theorem dX4_init_81 : decode cX4_init 81 = .ok (.aload_n 1, 1) := by decide +kernel
theorem dX4_init_82 : decode cX4_init 82 = .ok (.putfield 42, 3) := by decide +kernel
theorem dX4_init_85 : decode cX4_init 85 = .ok (.aload_n 0, 1) := by decide +kernel
theorem dX4_init_86 : decode cX4_init 86 = .ok (.aload_n 2, 1) := by decide +kernel
theorem dX4_init_87 : decode cX4_init 87 = .ok (.putfield 46, 3) := by decide +kernel
theorem dX4_init_90 : decode cX4_init 90 = .ok (.aload_n 0, 1) := by decide +kernel
theorem dX4_init_91 : decode cX4_init 91 = .ok (.aload_n 3, 1) := by decide +kernel
theorem dX4_init_92 : decode cX4_init 92 = .ok (.putfield 50, 3) := by decide +kernel
theorem dX4_init_95 : decode cX4_init 95 = .ok (.return_, 1) := by decide +kernel
theorem dX8_init_0 : decode cX8_init 0 = .ok (.aload_n 0, 1) := by decide +kernel
theorem dX8_init_1 : decode cX8_init 1 = .ok (.invokespecial 1, 3) := by decide +kernel
theorem dX8_init_4 : decode cX8_init 4 = .ok (.aload_n 0, 1) := by decide +kernel
theorem dX8_init_5 : decode cX8_init 5 = .ok (.bipush 20, 2) := by decide +kernel
theorem dX8_init_7 : decode cX8_init 7 = .ok (.newarray .byte, 2) := by decide +kernel
theorem dX8_init_9 : decode cX8_init 9 = .ok (.putfield 7, 3) := by decide +kernel
theorem dX8_init_12 : decode cX8_init 12 = .ok (.aload_n 0, 1) := by decide +kernel
theorem dX8_init_13 : decode cX8_init 13 = .ok (.iload_n 1, 1) := by decide +kernel
theorem dX8_init_14 : decode cX8_init 14 = .ok (.newarray .long, 2) := by decide +kernel
theorem dX8_init_16 : decode cX8_init 16 = .ok (.putfield 13, 3) := by decide +kernel
theorem dX8_init_19 : decode cX8_init 19 = .ok (.return_, 1) := by decide +kernel
theorem dX8_put_0 : decode cX8_put 0 = .ok (.aload_n 0, 1) := by decide +kernel
theorem dX8_put_1 : decode cX8_put 1 = .ok (.getfield 17, 3) := by decide +kernel
theorem dX8_put_4 : decode cX8_put 4 = .ok (.aload_n 0, 1) := by decide +kernel
theorem dX8_put_5 : decode cX8_put 5 = .ok (.getfield 13, 3) := by decide +kernel
theorem dX8_put_8 : decode cX8_put 8 = .ok (.arraylength, 1) := by decide +kernel
theorem dX8_put_9 : decode cX8_put 9 = .ok (.if_icmp .ne 5, 3) := by decide +kernel
theorem dX8_put_12 : decode cX8_put 12 = .ok (.iconst 0, 1) := by decide +kernel
theorem dX8_put_13 : decode cX8_put 13 = .ok (.ireturn, 1) := by decide +kernel
theorem dX8_put_14 : decode cX8_put 14 = .ok (.aload_n 0, 1) := by decide +kernel
theorem dX8_put_15 : decode cX8_put 15 = .ok (.getfield 13, 3) := by decide +kernel
theorem dX8_put_18 : decode cX8_put 18 = .ok (.aload_n 0, 1) := by decide +kernel
theorem dX8_put_19 : decode cX8_put 19 = .ok (.getfield 21, 3) := by decide +kernel
theorem dX8_put_22 : decode cX8_put 22 = .ok (.aload_n 0, 1) := by decide +kernel
theorem dX8_put_23 : decode cX8_put 23 = .ok (.getfield 17, 3) := by decide +kernel
theorem dX8_put_26 : decode cX8_put 26 = .ok (.iadd, 1) := by decide +kernel
theorem dX8_put_27 : decode cX8_put 27 = .ok (.aload_n 0, 1) := by decide +kernel
theorem dX8_put_28 : decode cX8_put 28 = .ok (.getfield 13, 3) := by decide +kernel
theorem dX8_put_31 : decode cX8_put 31 = .ok (.arraylength, 1) := by decide +kernel
theorem dX8_put_32 : decode cX8_put 32 = .ok (.irem, 1) := by decide +kernel
theorem dX8_put_33 : decode cX8_put 33 = .ok (.lload_n 1, 1) := by decide +kernel
theorem dX8_put_34 : decode cX8_put 34 = .ok (.lastore, 1) := by decide +kernel
theorem dX8_put_35 : decode cX8_put 35 = .ok (.aload_n 0, 1) := by decide +kernel
theorem dX8_put_36 : decode cX8_put 36 = .ok (.dup, 1) := by decide +kernel
theorem dX8_put_37 : decode cX8_put 37 = .ok (.getfield 17, 3) := by decide +kernel
theorem dX8_put_40 : decode cX8_put 40 = .ok (.iconst 1, 1) := by decide +kernel
theorem dX8_put_41 : decode cX8_put 41 = .ok (.iadd, 1) := by decide +kernel
theorem dX8_put_42 : decode cX8_put 42 = .ok (.putfield 17, 3) := by decide +kernel
theorem dX8_put_45 : decode cX8_put 45 = .ok (.iconst 1, 1) := by decide +kernel
theorem dX8_put_46 : decode cX8_put 46 = .ok (.ireturn, 1) := by decide +kernel
theorem dX6_init_0 : decode cX6_init 0 = .ok (.aload_n 0, 1) := by decide +kernel
theorem dX6_init_1 : decode cX6_init 1 = .ok (.invokespecial 3, 3) := by decide +kernel
theorem dX6_init_4 : decode cX6_init 4 = .ok (.aload_n 0, 1) := by decide +kernel
theorem dX6_init_5 : decode cX6_init 5 = .ok (.sipush 4064, 3) := by decide +kernel
theorem dX6_init_8 : decode cX6_init 8 = .ok (.newarray .int, 2) := by decide +kernel
theorem dX6_init_10 : decode cX6_init 10 = .ok (.putfield 9, 3) := by decide +kernel
theorem dX6_init_13 : decode cX6_init 13 = .ok (.aload_n 0, 1) := by decide +kernel
theorem dX6_init_14 : decode cX6_init 14 = .ok (.sipush 4064, 3) := by decide +kernel
theorem dX6_init_17 : decode cX6_init 17 = .ok (.newarray .int, 2) := by decide +kernel
theorem dX6_init_19 : decode cX6_init 19 = .ok (.putfield 15, 3) := by decide +kernel
theorem dX6_init_22 : decode cX6_init 22 = .ok (.aload_n 0, 1) := by decide +kernel
theorem dX6_init_23 : decode cX6_init 23 = .ok (.sipush 4064, 3) := by decide +kernel
theorem dX6_init_26 : decode cX6_init 26 = .ok (.newarray .int, 2) := by decide +kernel
theorem dX6_init_28 : decode cX6_init 28 = .ok (.putfield 18, 3) := by decide +kernel
theorem dX6_init_31 : decode cX6_init 31 = .ok (.aload_n 0, 1) := by decide +kernel
theorem dX6_init_32 : decode cX6_init 32 = .ok (.aload_n 1, 1) := by decide +kernel
theorem dX6_init_33 : decode cX6_init 33 = .ok (.putfield 21, 3) := by decide +kernel
theorem dX6_init_36 : decode cX6_init 36 = .ok (.aload_n 0, 1) := by decide +kernel
theorem dX6_init_37 : decode cX6_init 37 = .ok (.aload_n 2, 1) := by decide +kernel
theorem dX6_init_38 : decode cX6_init 38 = .ok (.putfield 25, 3) := by decide +kernel
theorem dX6_init_41 : decode cX6_init 41 = .ok (.aload_n 0, 1) := by decide +kernel
theorem dX6_init_42 : decode cX6_init 42 = .ok (.iload_n 3, 1) := by decide +kernel
theorem dX6_init_43 : decode cX6_init 43 = .ok (.putfield 29, 3) := by decide +kernel
theorem dX6_init_46 : decode cX6_init 46 = .ok (.aload_n 0, 1) := by decide +kernel
theorem dX6_init_47 : decode cX6_init 47 = .ok (.iload_n 3, 1) := by decide +kernel
theorem dX6_init_48 : decode cX6_init 48 = .ok (.sipush 8192, 3) := by decide +kernel
theorem dX6_init_51 : decode cX6_init 51 = .ok (.iadd, 1) := by decide +kernel
theorem dX6_init_52 : decode cX6_init 52 = .ok (.newarray .long, 2) := by decide +kernel
theorem dX6_init_54 : decode cX6_init 54 = .ok (.putfield 33, 3) := by decide +kernel
theorem dX6_init_57 : decode cX6_init 57 = .ok (.aload_n 0, 1) := by decide +kernel
theorem dX6_init_58 : decode cX6_init 58 = .ok (.iload_n 3, 1) := by decide +kernel
theorem dX6_init_59 : decode cX6_init 59 = .ok (.newarray .byte, 2) := by decide +kernel
theorem dX6_init_61 : decode cX6_init 61 = .ok (.putfield 37, 3) := by decide +kernel
theorem dX6_init_64 : decode cX6_init 64 = .ok (.return_, 1) := by decide +kernel
theorem dX6_clear_0 : decode cX6_clear 0 = .ok (.aload_n 0, 1) := by decide +kernel
theorem dX6_clear_1 : decode cX6_clear 1 = .ok (.getfield 37, 3) := by decide +kernel
theorem dX6_clear_4 : decode cX6_clear 4 = .ok (.iconst 0, 1) := by decide +kernel
theorem dX6_clear_5 : decode cX6_clear 5 = .ok (.invokestatic 41, 3) := by decide +kernel
theorem dX6_clear_8 : decode cX6_clear 8 = .ok (.aload_n 0, 1) := by decide +kernel
theorem dX6_clear_9 : decode cX6_clear 9 = .ok (.iconst 0, 1) := by decide +kernel
theorem dX6_clear_10 : decode cX6_clear 10 = .ok (.putfield 47, 3) := by decide +kernel
theorem dX6_clear_13 : decode cX6_clear 13 = .ok (.aload_n 0, 1) := by decide +kernel
theorem dX6_clear_14 : decode cX6_clear 14 = .ok (.iconst 0, 1) := by decide +kernel
theorem dX6_clear_15 : decode cX6_clear 15 = .ok (.putfield 50, 3) := by decide +kernel
theorem dX6_clear_18 : decode cX6_clear 18 = .ok (.aload_n 0, 1) := by decide +kernel
theorem dX6_clear_19 : decode cX6_clear 19 = .ok (.iconst 0, 1) := by decide +kernel
theorem dX6_clear_20 : decode cX6_clear 20 = .ok (.putfield 53, 3) := by decide +kernel
theorem dX6_clear_23 : decode cX6_clear 23 = .ok (.return_, 1) := by decide +kernel
theorem dX5_init_0 : decode cX5_init 0 = .ok (.aload_n 0, 1) := by decide +kernel
theorem dX5_init_1 : decode cX5_init 1 = .ok (.invokespecial 3, 3) := by decide +kernel
theorem dX5_init_4 : decode cX5_init 4 = .ok (.aload_n 0, 1) := by decide +kernel
theorem dX5_init_5 : decode cX5_init 5 = .ok (.bipush 60, 2) := by decide +kernel
theorem dX5_init_7 : decode cX5_init 7 = .ok (.anewarray 9, 3) := by decide +kernel
theorem dX5_init_10 : decode cX5_init 10 = .ok (.putfield 11, 3) := by decide +kernel
theorem dX5_init_13 : decode cX5_init 13 = .ok (.aload_n 0, 1) := by decide +kernel
theorem dX5_init_14 : decode cX5_init 14 = .ok (.bipush 60, 2) := by decide +kernel
theorem dX5_init_16 : decode cX5_init 16 = .ok (.newarray .int, 2) := by decide +kernel
theorem dX5_init_18 : decode cX5_init 18 = .ok (.putfield 17, 3) := by decide +kernel
theorem dX5_init_21 : decode cX5_init 21 = .ok (.aload_n 0, 1) := by decide +kernel
theorem dX5_init_22 : decode cX5_init 22 = .ok (.bipush 60, 2) := by decide +kernel
theorem dX5_init_24 : decode cX5_init 24 = .ok (.newarray .int, 2) := by decide +kernel
theorem dX5_init_26 : decode cX5_init 26 = .ok (.putfield 21, 3) := by decide +kernel
theorem dX5_init_29 : decode cX5_init 29 = .ok (.aload_n 0, 1) := by decide +kernel
theorem dX5_init_30 : decode cX5_init 30 = .ok (.sipush 2400, 3) := by decide +kernel
theorem dX5_init_33 : decode cX5_init 33 = .ok (.newarray .int, 2) := by decide +kernel
theorem dX5_init_35 : decode cX5_init 35 = .ok (.putfield 24, 3) := by decide +kernel
theorem dX5_init_38 : decode cX5_init 38 = .ok (.aload_n 0, 1) := by decide +kernel
theorem dX5_init_39 : decode cX5_init 39 = .ok (.aload_n 1, 1) := by decide +kernel
theorem dX5_init_40 : decode cX5_init 40 = .ok (.putfield 27, 3) := by decide +kernel
theorem dX5_init_43 : decode cX5_init 43 = .ok (.aload_n 0, 1) := by decide +kernel
theorem dX5_init_44 : decode cX5_init 44 = .ok (.aload_n 2, 1) := by decide +kernel
theorem dX5_init_45 : decode cX5_init 45 = .ok (.putfield 31, 3) := by decide +kernel
theorem dX5_init_48 : decode cX5_init 48 = .ok (.aload_n 0, 1) := by decide +kernel
theorem dX5_init_49 : decode cX5_init 49 = .ok (.aload_n 3, 1) := by decide +kernel
theorem dX5_init_50 : decode cX5_init 50 = .ok (.putfield 35, 3) := by decide +kernel
theorem dX5_init_53 : decode cX5_init 53 = .ok (.aload_n 0, 1) := by decide +kernel
theorem dX5_init_54 : decode cX5_init 54 = .ok (.aload 4, 2) := by decide +kernel
theorem dX5_init_56 : decode cX5_init 56 = .ok (.putfield 39, 3) := by decide +kernel
theorem dX5_init_59 : decode cX5_init 59 = .ok (.aload_n 0, 1) := by decide +kernel
theorem dX5_init_60 : decode cX5_init 60 = .ok (.aload 5, 2) := by decide +kernel
theorem dX5_init_62 : decode cX5_init 62 = .ok (.putfield 43, 3) := by decide +kernel
theorem dX5_init_65 : decode cX5_init 65 = .ok (.aload_n 0, 1) := by decide +kernel
theorem dX5_init_66 : decode cX5_init 66 = .ok (.aload 6, 2) := by decide +kernel
theorem dX5_init_68 : decode cX5_init 68 = .ok (.putfield 47, 3) := by decide +kernel
theorem dX5_init_71 : decode cX5_init 71 = .ok (.return_, 1) := by decide +kernel
theorem dJ7_fill_53178_0 : decode cJ7_fill_53178 0 = .ok (.iconst 0, 1) := by decide +kernel
theorem dJ7_fill_53178_1 : decode cJ7_fill_53178 1 = .ok (.istore_n 2, 1) := by decide +kernel
theorem dJ7_fill_53178_2 : decode cJ7_fill_53178 2 = .ok (.aload_n 0, 1) := by decide +kernel
theorem dJ7_fill_53178_3 : decode cJ7_fill_53178 3 = .ok (.arraylength, 1) := by decide +kernel
theorem dJ7_fill_53178_4 : decode cJ7_fill_53178 4 = .ok (.istore_n 3, 1) := by decide +kernel
theorem dJ7_fill_53178_5 : decode cJ7_fill_53178 5 = .ok (.iload_n 2, 1) := by decide +kernel
theorem dJ7_fill_53178_6 : decode cJ7_fill_53178 6 = .ok (.iload_n 3, 1) := by decide +kernel
theorem dJ7_fill_53178_7 : decode cJ7_fill_53178 7 = .ok (.if_icmp .ge 13, 3) := by decide +kernel
theorem dJ7_fill_53178_10 : decode cJ7_fill_53178 10 = .ok (.aload_n 0, 1) := by decide +kernel
theorem dJ7_fill_53178_11 : decode cJ7_fill_53178 11 = .ok (.iload_n 2, 1) := by decide +kernel
theorem dJ7_fill_53178_12 : decode cJ7_fill_53178 12 = .ok (.iload_n 1, 1) := by decide +kernel
theorem dJ7_fill_53178_13 : decode cJ7_fill_53178 13 = .ok (.iastore, 1) := by decide +kernel
theorem dJ7_fill_53178_14 : decode cJ7_fill_53178 14 = .ok (.iinc 2 1, 3) := by decide +kernel
theorem dJ7_fill_53178_17 : decode cJ7_fill_53178 17 = .ok (.goto (-12), 3) := by decide +kernel
theorem dJ7_fill_53178_20 : decode cJ7_fill_53178 20 = .ok (.return_, 1) := by decide +kernel
theorem dJ7_fill_fda19_0 : decode cJ7_fill_fda19 0 = .ok (.aload_n 0, 1) := by decide +kernel
theorem dJ7_fill_fda19_1 : decode cJ7_fill_fda19 1 = .ok (.arraylength, 1) := by decide +kernel
theorem dJ7_fill_fda19_2 : decode cJ7_fill_fda19 2 = .ok (.iload_n 1, 1) := by decide +kernel
theorem dJ7_fill_fda19_3 : decode cJ7_fill_fda19 3 = .ok (.iload_n 2, 1) := by decide +kernel
theorem dJ7_fill_fda19_4 : decode cJ7_fill_fda19 4 = .ok (.invokestatic 13, 3) := by decide +kernel
theorem dJ7_fill_fda19_7 : decode cJ7_fill_fda19 7 = .ok (.iload_n 1, 1) := by decide +kernel
theorem dJ7_fill_fda19_8 : decode cJ7_fill_fda19 8 = .ok (.istore 4, 2) := by decide +kernel
theorem dJ7_fill_fda19_10 : decode cJ7_fill_fda19 10 = .ok (.iload 4, 2) := by decide +kernel
theorem dJ7_fill_fda19_12 : decode cJ7_fill_fda19 12 = .ok (.iload_n 2, 1) := by decide +kernel
theorem dJ7_fill_fda19_13 : decode cJ7_fill_fda19 13 = .ok (.if_icmp .ge 14, 3) := by decide +kernel
theorem dJ7_fill_fda19_16 : decode cJ7_fill_fda19 16 = .ok (.aload_n 0, 1) := by decide +kernel
theorem dJ7_fill_fda19_17 : decode cJ7_fill_fda19 17 = .ok (.iload 4, 2) := by decide +kernel
theorem dJ7_fill_fda19_19 : decode cJ7_fill_fda19 19 = .ok (.iload_n 3, 1) := by decide +kernel
theorem dJ7_fill_fda19_20 : decode cJ7_fill_fda19 20 = .ok (.iastore, 1) := by decide +kernel
theorem dJ7_fill_fda19_21 : decode cJ7_fill_fda19 21 = .ok (.iinc 4 1, 3) := by decide +kernel
theorem dJ7_fill_fda19_24 : decode cJ7_fill_fda19 24 = .ok (.goto (-14), 3) := by decide +kernel
theorem dJ7_fill_fda19_27 : decode cJ7_fill_fda19 27 = .ok (.return_, 1) := by decide +kernel
theorem dJ7_fill_031fb_0 : decode cJ7_fill_031fb 0 = .ok (.iconst 0, 1) := by decide +kernel
theorem dJ7_fill_031fb_1 : decode cJ7_fill_031fb 1 = .ok (.istore_n 2, 1) := by decide +kernel
theorem dJ7_fill_031fb_2 : decode cJ7_fill_031fb 2 = .ok (.aload_n 0, 1) := by decide +kernel
theorem dJ7_fill_031fb_3 : decode cJ7_fill_031fb 3 = .ok (.arraylength, 1) := by decide +kernel
theorem dJ7_fill_031fb_4 : decode cJ7_fill_031fb 4 = .ok (.istore_n 3, 1) := by decide +kernel
theorem dJ7_fill_031fb_5 : decode cJ7_fill_031fb 5 = .ok (.iload_n 2, 1) := by decide +kernel
theorem dJ7_fill_031fb_6 : decode cJ7_fill_031fb 6 = .ok (.iload_n 3, 1) := by decide +kernel
theorem dJ7_fill_031fb_7 : decode cJ7_fill_031fb 7 = .ok (.if_icmp .ge 13, 3) := by decide +kernel
theorem dJ7_fill_031fb_10 : decode cJ7_fill_031fb 10 = .ok (.aload_n 0, 1) := by decide +kernel
theorem dJ7_fill_031fb_11 : decode cJ7_fill_031fb 11 = .ok (.iload_n 2, 1) := by decide +kernel
theorem dJ7_fill_031fb_12 : decode cJ7_fill_031fb 12 = .ok (.iload_n 1, 1) := by decide +kernel
theorem dJ7_fill_031fb_13 : decode cJ7_fill_031fb 13 = .ok (.bastore, 1) := by decide +kernel
theorem dJ7_fill_031fb_14 : decode cJ7_fill_031fb 14 = .ok (.iinc 2 1, 3) := by decide +kernel
theorem dJ7_fill_031fb_17 : decode cJ7_fill_031fb 17 = .ok (.goto (-12), 3) := by decide +kernel
theorem dJ7_fill_031fb_20 : decode cJ7_fill_031fb 20 = .ok (.return_, 1) := by decide +kernel
theorem dJ7_rangeCheck_23922_0 : decode cJ7_rangeCheck_23922 0 = .ok (.iload_n 1, 1) := by decide +kernel
theorem dJ7_rangeCheck_23922_1 : decode cJ7_rangeCheck_23922 1 = .ok (.iload_n 2, 1) := by decide +kernel
theorem dJ7_rangeCheck_23922_2 : decode cJ7_rangeCheck_23922 2 = .ok (.if_icmp .le 44, 3) := by decide +kernel
theorem dJ7_rangeCheck_23922_5 : decode cJ7_rangeCheck_23922 5 = .ok (.new 43, 3) := by decide +kernel
theorem dJ7_rangeCheck_23922_8 : decode cJ7_rangeCheck_23922 8 = .ok (.dup, 1) := by decide +kernel
theorem dJ7_rangeCheck_23922_9 : decode cJ7_rangeCheck_23922 9 = .ok (.new 45, 3) := by decide +kernel
theorem dJ7_rangeCheck_23922_12 : decode cJ7_rangeCheck_23922 12 = .ok (.dup, 1) := by decide +kernel
theorem dJ7_rangeCheck_23922_13 : decode cJ7_rangeCheck_23922 13 = .ok (.invokespecial 47, 3) := by decide +kernel
theorem dJ7_rangeCheck_23922_16 : decode cJ7_rangeCheck_23922 16 = .ok (.ldc 48, 2) := by decide +kernel
theorem dJ7_rangeCheck_23922_18 : decode cJ7_rangeCheck_23922 18 = .ok (.invokevirtual 50, 3) := by decide +kernel
theorem dJ7_rangeCheck_23922_21 : decode cJ7_rangeCheck_23922 21 = .ok (.iload_n 1, 1) := by decide +kernel
theorem dJ7_rangeCheck_23922_22 : decode cJ7_rangeCheck_23922 22 = .ok (.invokevirtual 54, 3) := by decide +kernel
theorem dJ7_rangeCheck_23922_25 : decode cJ7_rangeCheck_23922 25 = .ok (.ldc 57, 2) := by decide +kernel
theorem dJ7_rangeCheck_23922_27 : decode cJ7_rangeCheck_23922 27 = .ok (.invokevirtual 50, 3) := by decide +kernel
theorem dJ7_rangeCheck_23922_30 : decode cJ7_rangeCheck_23922 30 = .ok (.iload_n 2, 1) := by decide +kernel
theorem dJ7_rangeCheck_23922_31 : decode cJ7_rangeCheck_23922 31 = .ok (.invokevirtual 54, 3) := by decide +kernel
theorem dJ7_rangeCheck_23922_34 : decode cJ7_rangeCheck_23922 34 = .ok (.ldc 59, 2) := by decide +kernel
theorem dJ7_rangeCheck_23922_36 : decode cJ7_rangeCheck_23922 36 = .ok (.invokevirtual 50, 3) := by decide +kernel
theorem dJ7_rangeCheck_23922_39 : decode cJ7_rangeCheck_23922 39 = .ok (.invokevirtual 61, 3) := by decide +kernel
theorem dJ7_rangeCheck_23922_42 : decode cJ7_rangeCheck_23922 42 = .ok (.invokespecial 65, 3) := by decide +kernel
theorem dJ7_rangeCheck_23922_45 : decode cJ7_rangeCheck_23922 45 = .ok (.athrow, 1) := by decide +kernel
theorem dJ7_rangeCheck_23922_46 : decode cJ7_rangeCheck_23922 46 = .ok (.iload_n 1, 1) := by decide +kernel
theorem dJ7_rangeCheck_23922_47 : decode cJ7_rangeCheck_23922 47 = .ok (.ifCond .ge 12, 3) := by decide +kernel
theorem dJ7_rangeCheck_23922_50 : decode cJ7_rangeCheck_23922 50 = .ok (.new 68, 3) := by decide +kernel
theorem dJ7_rangeCheck_23922_53 : decode cJ7_rangeCheck_23922 53 = .ok (.dup, 1) := by decide +kernel
theorem dJ7_rangeCheck_23922_54 : decode cJ7_rangeCheck_23922 54 = .ok (.iload_n 1, 1) := by decide +kernel
theorem dJ7_rangeCheck_23922_55 : decode cJ7_rangeCheck_23922 55 = .ok (.invokespecial 70, 3) := by decide +kernel
theorem dJ7_rangeCheck_23922_58 : decode cJ7_rangeCheck_23922 58 = .ok (.athrow, 1) := by decide +kernel
theorem dJ7_rangeCheck_23922_59 : decode cJ7_rangeCheck_23922 59 = .ok (.iload_n 2, 1) := by decide +kernel
theorem dJ7_rangeCheck_23922_60 : decode cJ7_rangeCheck_23922 60 = .ok (.iload_n 0, 1) := by decide +kernel
theorem dJ7_rangeCheck_23922_61 : decode cJ7_rangeCheck_23922 61 = .ok (.if_icmp .le 12, 3) := by decide +kernel
theorem dJ7_rangeCheck_23922_64 : decode cJ7_rangeCheck_23922 64 = .ok (.new 68, 3) := by decide +kernel
theorem dJ7_rangeCheck_23922_67 : decode cJ7_rangeCheck_23922 67 = .ok (.dup, 1) := by decide +kernel
theorem dJ7_rangeCheck_23922_68 : decode cJ7_rangeCheck_23922 68 = .ok (.iload_n 2, 1) := by decide +kernel
theorem dJ7_rangeCheck_23922_69 : decode cJ7_rangeCheck_23922 69 = .ok (.invokespecial 70, 3) := by decide +kernel
theorem dJ7_rangeCheck_23922_72 : decode cJ7_rangeCheck_23922 72 = .ok (.athrow, 1) := by decide +kernel
theorem dJ7_rangeCheck_23922_73 : decode cJ7_rangeCheck_23922 73 = .ok (.return_, 1) := by decide +kernel
theorem dJ9_min_7cf53_0 : decode cJ9_min_7cf53 0 = .ok (.iload_n 0, 1) := by decide +kernel
theorem dJ9_min_7cf53_1 : decode cJ9_min_7cf53 1 = .ok (.iload_n 1, 1) := by decide +kernel
theorem dJ9_min_7cf53_2 : decode cJ9_min_7cf53 2 = .ok (.if_icmp .gt 7, 3) := by decide +kernel
theorem dJ9_min_7cf53_5 : decode cJ9_min_7cf53 5 = .ok (.iload_n 0, 1) := by decide +kernel
theorem dJ9_min_7cf53_6 : decode cJ9_min_7cf53 6 = .ok (.goto 4, 3) := by decide +kernel
theorem dJ9_min_7cf53_9 : decode cJ9_min_7cf53 9 = .ok (.iload_n 1, 1) := by decide +kernel
theorem dJ9_min_7cf53_10 : decode cJ9_min_7cf53 10 = .ok (.ireturn, 1) := by decide +kernel
theorem dJ0_length_8abf5_0 : decode cJ0_length_8abf5 0 = .ok (.aload_n 0, 1) := by decide +kernel
theorem dJ0_length_8abf5_1 : decode cJ0_length_8abf5 1 = .ok (.getfield 9, 3) := by decide +kernel
theorem dJ0_length_8abf5_4 : decode cJ0_length_8abf5 4 = .ok (.arraylength, 1) := by decide +kernel
theorem dJ0_length_8abf5_5 : decode cJ0_length_8abf5 5 = .ok (.aload_n 0, 1) := by decide +kernel
theorem dJ0_length_8abf5_6 : decode cJ0_length_8abf5 6 = .ok (.invokevirtual 335, 3) := by decide +kernel
theorem dJ0_length_8abf5_9 : decode cJ0_length_8abf5 9 = .ok (.ishr, 1) := by decide +kernel
theorem dJ0_length_8abf5_10 : decode cJ0_length_8abf5 10 = .ok (.ireturn, 1) := by decide +kernel
theorem dJ0_charAt_5068e_0 : decode cJ0_charAt_5068e 0 = .ok (.aload_n 0, 1) := by decide +kernel
theorem dJ0_charAt_5068e_1 : decode cJ0_charAt_5068e 1 = .ok (.invokevirtual 492, 3) := by decide +kernel
theorem dJ0_charAt_5068e_4 : decode cJ0_charAt_5068e 4 = .ok (.ifCond .eq 12, 3) := by decide +kernel
theorem dJ0_charAt_5068e_7 : decode cJ0_charAt_5068e 7 = .ok (.aload_n 0, 1) := by decide +kernel
theorem dJ0_charAt_5068e_8 : decode cJ0_charAt_5068e 8 = .ok (.getfield 9, 3) := by decide +kernel
theorem dJ0_charAt_5068e_11 : decode cJ0_charAt_5068e 11 = .ok (.iload_n 1, 1) := by decide +kernel
theorem dJ0_charAt_5068e_12 : decode cJ0_charAt_5068e 12 = .ok (.invokestatic 495, 3) := by decide +kernel
theorem dJ0_charAt_5068e_15 : decode cJ0_charAt_5068e 15 = .ok (.ireturn, 1) := by decide +kernel
theorem dJ0_charAt_5068e_16 : decode cJ0_charAt_5068e 16 = .ok (.aload_n 0, 1) := by decide +kernel
theorem dJ0_charAt_5068e_17 : decode cJ0_charAt_5068e 17 = .ok (.getfield 9, 3) := by decide +kernel
theorem dJ0_charAt_5068e_20 : decode cJ0_charAt_5068e 20 = .ok (.iload_n 1, 1) := by decide +kernel
theorem dJ0_charAt_5068e_21 : decode cJ0_charAt_5068e 21 = .ok (.invokestatic 498, 3) := by decide +kernel
theorem dJ0_charAt_5068e_24 : decode cJ0_charAt_5068e 24 = .ok (.ireturn, 1) := by decide +kernel
theorem dJ0_coder_7d493_0 : decode cJ0_coder_7d493 0 = .ok (.getstatic 38, 3) := by decide +kernel
theorem dJ0_coder_7d493_3 : decode cJ0_coder_7d493 3 = .ok (.ifCond .eq 10, 3) := by decide +kernel
theorem dJ0_coder_7d493_6 : decode cJ0_coder_7d493 6 = .ok (.aload_n 0, 1) := by decide +kernel
theorem dJ0_coder_7d493_7 : decode cJ0_coder_7d493 7 = .ok (.getfield 15, 3) := by decide +kernel
theorem dJ0_coder_7d493_10 : decode cJ0_coder_7d493 10 = .ok (.goto 4, 3) := by decide +kernel
theorem dJ0_coder_7d493_13 : decode cJ0_coder_7d493 13 = .ok (.iconst 1, 1) := by decide +kernel
theorem dJ0_coder_7d493_14 : decode cJ0_coder_7d493 14 = .ok (.ireturn, 1) := by decide +kernel
theorem dJ0_isLatin1_aae02_0 : decode cJ0_isLatin1_aae02 0 = .ok (.getstatic 38, 3) := by decide +kernel
theorem dJ0_isLatin1_aae02_3 : decode cJ0_isLatin1_aae02 3 = .ok (.ifCond .eq 14, 3) := by decide +kernel
theorem dJ0_isLatin1_aae02_6 : decode cJ0_isLatin1_aae02 6 = .ok (.aload_n 0, 1) := by decide +kernel
theorem dJ0_isLatin1_aae02_7 : decode cJ0_isLatin1_aae02 7 = .ok (.getfield 15, 3) := by decide +kernel
theorem dJ0_isLatin1_aae02_10 : decode cJ0_isLatin1_aae02 10 = .ok (.ifCond .ne 7, 3) := by decide +kernel
theorem dJ0_isLatin1_aae02_13 : decode cJ0_isLatin1_aae02 13 = .ok (.iconst 1, 1) := by decide +kernel
theorem dJ0_isLatin1_aae02_14 : decode cJ0_isLatin1_aae02 14 = .ok (.goto 4, 3) := by decide +kernel
theorem dJ0_isLatin1_aae02_17 : decode cJ0_isLatin1_aae02 17 = .ok (.iconst 0, 1) := by decide +kernel
theorem dJ0_isLatin1_aae02_18 : decode cJ0_isLatin1_aae02 18 = .ok (.ireturn, 1) := by decide +kernel
theorem dJ0_checkIndex_df160_0 : decode cJ0_checkIndex_df160 0 = .ok (.iload_n 0, 1) := by decide +kernel
theorem dJ0_checkIndex_df160_1 : decode cJ0_checkIndex_df160 1 = .ok (.iload_n 1, 1) := by decide +kernel
theorem dJ0_checkIndex_df160_2 : decode cJ0_checkIndex_df160 2 = .ok (.getstatic 1053, 3) := by decide +kernel
theorem dJ0_checkIndex_df160_5 : decode cJ0_checkIndex_df160 5 = .ok (.invokestatic 1059, 3) := by decide +kernel
theorem dJ0_checkIndex_df160_8 : decode cJ0_checkIndex_df160 8 = .ok (.pop, 1) := by decide +kernel
theorem dJ0_checkIndex_df160_9 : decode cJ0_checkIndex_df160 9 = .ok (.return_, 1) := by decide +kernel
theorem dJ1_charAt_3b067_0 : decode cJ1_charAt_3b067 0 = .ok (.iload_n 1, 1) := by decide +kernel
theorem dJ1_charAt_3b067_1 : decode cJ1_charAt_3b067 1 = .ok (.aload_n 0, 1) := by decide +kernel
theorem dJ1_charAt_3b067_2 : decode cJ1_charAt_3b067 2 = .ok (.arraylength, 1) := by decide +kernel
theorem dJ1_charAt_3b067_3 : decode cJ1_charAt_3b067 3 = .ok (.invokestatic 9, 3) := by decide +kernel
theorem dJ1_charAt_3b067_6 : decode cJ1_charAt_3b067 6 = .ok (.aload_n 0, 1) := by decide +kernel
theorem dJ1_charAt_3b067_7 : decode cJ1_charAt_3b067 7 = .ok (.iload_n 1, 1) := by decide +kernel
theorem dJ1_charAt_3b067_8 : decode cJ1_charAt_3b067 8 = .ok (.baload, 1) := by decide +kernel
theorem dJ1_charAt_3b067_9 : decode cJ1_charAt_3b067 9 = .ok (.sipush 255, 3) := by decide +kernel
theorem dJ1_charAt_3b067_12 : decode cJ1_charAt_3b067 12 = .ok (.iand, 1) := by decide +kernel
theorem dJ1_charAt_3b067_13 : decode cJ1_charAt_3b067 13 = .ok (.i2c, 1) := by decide +kernel
theorem dJ1_charAt_3b067_14 : decode cJ1_charAt_3b067 14 = .ok (.ireturn, 1) := by decide +kernel
theorem dJ3_checkIndex_8e157_0 : decode cJ3_checkIndex_8e157 0 = .ok (.iload_n 0, 1) := by decide +kernel
theorem dJ3_checkIndex_8e157_1 : decode cJ3_checkIndex_8e157 1 = .ok (.ifCond .lt 8, 3) := by decide +kernel
theorem dJ3_checkIndex_8e157_4 : decode cJ3_checkIndex_8e157 4 = .ok (.iload_n 0, 1) := by decide +kernel
theorem dJ3_checkIndex_8e157_5 : decode cJ3_checkIndex_8e157 5 = .ok (.iload_n 1, 1) := by decide +kernel
theorem dJ3_checkIndex_8e157_6 : decode cJ3_checkIndex_8e157 6 = .ok (.if_icmp .lt 10, 3) := by decide +kernel
theorem dJ3_checkIndex_8e157_9 : decode cJ3_checkIndex_8e157 9 = .ok (.aload_n 2, 1) := by decide +kernel
theorem dJ3_checkIndex_8e157_10 : decode cJ3_checkIndex_8e157 10 = .ok (.iload_n 0, 1) := by decide +kernel
theorem dJ3_checkIndex_8e157_11 : decode cJ3_checkIndex_8e157 11 = .ok (.iload_n 1, 1) := by decide +kernel
theorem dJ3_checkIndex_8e157_12 : decode cJ3_checkIndex_8e157 12 = .ok (.invokestatic 95, 3) := by decide +kernel
theorem dJ3_checkIndex_8e157_15 : decode cJ3_checkIndex_8e157 15 = .ok (.athrow, 1) := by decide +kernel
theorem dJ3_checkIndex_8e157_16 : decode cJ3_checkIndex_8e157 16 = .ok (.iload_n 0, 1) := by decide +kernel
theorem dJ3_checkIndex_8e157_17 : decode cJ3_checkIndex_8e157 17 = .ok (.ireturn, 1) := by decide +kernel
theorem dX23_init_0 : decode cX23_init 0 = .ok (.aload_n 0, 1) := by decide +kernel
theorem dX23_init_1 : decode cX23_init 1 = .ok (.invokespecial 923, 3) := by decide +kernel
theorem dX23_init_4 : decode cX23_init 4 = .ok (.aload_n 0, 1) := by decide +kernel
theorem dX23_init_5 : decode cX23_init 5 = .ok (.sipush 3000, 3) := by decide +kernel
theorem dX23_init_8 : decode cX23_init 8 = .ok (.newarray .int, 2) := by decide +kernel
theorem dX23_init_10 : decode cX23_init 10 = .ok (.putfield 7, 3) := by decide +kernel
theorem dX23_init_13 : decode cX23_init 13 = .ok (.aload_n 0, 1) := by decide +kernel
theorem dX23_init_14 : decode cX23_init 14 = .ok (.sipush 3002, 3) := by decide +kernel
theorem dX23_init_17 : decode cX23_init 17 = .ok (.newarray .int, 2) := by decide +kernel
theorem dX23_init_19 : decode cX23_init 19 = .ok (.putfield 25, 3) := by decide +kernel
theorem dX23_init_22 : decode cX23_init 22 = .ok (.aload_n 0, 1) := by decide +kernel
theorem dX23_init_23 : decode cX23_init 23 = .ok (.sipush 3002, 3) := by decide +kernel
theorem dX23_init_26 : decode cX23_init 26 = .ok (.newarray .int, 2) := by decide +kernel
theorem dX23_init_28 : decode cX23_init 28 = .ok (.putfield 31, 3) := by decide +kernel
theorem dX23_init_31 : decode cX23_init 31 = .ok (.aload_n 0, 1) := by decide +kernel
theorem dX23_init_32 : decode cX23_init 32 = .ok (.sipush 3002, 3) := by decide +kernel
theorem dX23_init_35 : decode cX23_init 35 = .ok (.newarray .int, 2) := by decide +kernel
theorem dX23_init_37 : decode cX23_init 37 = .ok (.putfield 34, 3) := by decide +kernel
theorem dX23_init_40 : decode cX23_init 40 = .ok (.aload_n 0, 1) := by decide +kernel
theorem dX23_init_41 : decode cX23_init 41 = .ok (.sipush 3002, 3) := by decide +kernel
theorem dX23_init_44 : decode cX23_init 44 = .ok (.newarray .long, 2) := by decide +kernel
theorem dX23_init_46 : decode cX23_init 46 = .ok (.putfield 37, 3) := by decide +kernel
theorem dX23_init_49 : decode cX23_init 49 = .ok (.aload_n 0, 1) := by decide +kernel
theorem dX23_init_50 : decode cX23_init 50 = .ok (.bipush 70, 2) := by decide +kernel
theorem dX23_init_52 : decode cX23_init 52 = .ok (.anewarray 140, 3) := by decide +kernel
theorem dX23_init_55 : decode cX23_init 55 = .ok (.putfield 232, 3) := by decide +kernel
theorem dX23_init_58 : decode cX23_init 58 = .ok (.aload_n 0, 1) := by decide +kernel
theorem dX23_init_59 : decode cX23_init 59 = .ok (.sipush 2000, 3) := by decide +kernel
theorem dX23_init_62 : decode cX23_init 62 = .ok (.anewarray 164, 3) := by decide +kernel
theorem dX23_init_65 : decode cX23_init 65 = .ok (.putfield 385, 3) := by decide +kernel
theorem dX23_init_68 : decode cX23_init 68 = .ok (.aload_n 0, 1) := by decide +kernel
theorem dX23_init_69 : decode cX23_init 69 = .ok (.sipush 4900, 3) := by decide +kernel
theorem dX23_init_72 : decode cX23_init 72 = .ok (.newarray .boolean, 2) := by decide +kernel
theorem dX23_init_74 : decode cX23_init 74 = .ok (.putfield 432, 3) := by decide +kernel
theorem dX23_init_77 : decode cX23_init 77 = .ok (.aload_n 0, 1) := by decide +kernel
theorem dX23_init_78 : decode cX23_init 78 = .ok (.bipush 40, 2) := by decide +kernel
theorem dX23_init_80 : decode cX23_init 80 = .ok (.anewarray 192, 3) := by decide +kernel
theorem dX23_init_83 : decode cX23_init 83 = .ok (.putfield 474, 3) := by decide +kernel
theorem dX23_init_86 : decode cX23_init 86 = .ok (.aload_n 0, 1) := by decide +kernel
theorem dX23_init_87 : decode cX23_init 87 = .ok (.sipush 24000, 3) := by decide +kernel
theorem dX23_init_90 : decode cX23_init 90 = .ok (.newarray .int, 2) := by decide +kernel
theorem dX23_init_92 : decode cX23_init 92 = .ok (.putfield 625, 3) := by decide +kernel
theorem dX23_init_95 : decode cX23_init 95 = .ok (.aload_n 0, 1) := by decide +kernel
theorem dX23_init_96 : decode cX23_init 96 = .ok (.sipush 24000, 3) := by decide +kernel
theorem dX23_init_99 : decode cX23_init 99 = .ok (.newarray .int, 2) := by decide +kernel
theorem dX23_init_101 : decode cX23_init 101 = .ok (.putfield 629, 3) := by decide +kernel
theorem dX23_init_104 : decode cX23_init 104 = .ok (.aload_n 0, 1) := by decide +kernel
theorem dX23_init_105 : decode cX23_init 105 = .ok (.sipush 24000, 3) := by decide +kernel
theorem dX23_init_108 : decode cX23_init 108 = .ok (.newarray .int, 2) := by decide +kernel
theorem dX23_init_110 : decode cX23_init 110 = .ok (.putfield 632, 3) := by decide +kernel
theorem dX23_init_113 : decode cX23_init 113 = .ok (.aload_n 0, 1) := by decide +kernel
theorem dX23_init_114 : decode cX23_init 114 = .ok (.sipush 24000, 3) := by decide +kernel
theorem dX23_init_117 : decode cX23_init 117 = .ok (.newarray .int, 2) := by decide +kernel
theorem dX23_init_119 : decode cX23_init 119 = .ok (.putfield 635, 3) := by decide +kernel
theorem dX23_init_122 : decode cX23_init 122 = .ok (.aload_n 0, 1) := by decide +kernel
theorem dX23_init_123 : decode cX23_init 123 = .ok (.sipush 24000, 3) := by decide +kernel
theorem dX23_init_126 : decode cX23_init 126 = .ok (.newarray .long, 2) := by decide +kernel
theorem dX23_init_128 : decode cX23_init 128 = .ok (.putfield 638, 3) := by decide +kernel
theorem dX23_init_131 : decode cX23_init 131 = .ok (.aload_n 0, 1) := by decide +kernel
theorem dX23_init_132 : decode cX23_init 132 = .ok (.sipush 24000, 3) := by decide +kernel
theorem dX23_init_135 : decode cX23_init 135 = .ok (.newarray .int, 2) := by decide +kernel
theorem dX23_init_137 : decode cX23_init 137 = .ok (.putfield 627, 3) := by decide +kernel
theorem dX23_init_140 : decode cX23_init 140 = .ok (.aload_n 0, 1) := by decide +kernel
theorem dX23_init_141 : decode cX23_init 141 = .ok (.sipush 24000, 3) := by decide +kernel
theorem dX23_init_144 : decode cX23_init 144 = .ok (.newarray .int, 2) := by decide +kernel
theorem dX23_init_146 : decode cX23_init 146 = .ok (.putfield 640, 3) := by decide +kernel
theorem dX23_init_149 : decode cX23_init 149 = .ok (.aload_n 0, 1) := by decide +kernel
theorem dX23_init_150 : decode cX23_init 150 = .ok (.sipush 24000, 3) := by decide +kernel
theorem dX23_init_153 : decode cX23_init 153 = .ok (.newarray .int, 2) := by decide +kernel
theorem dX23_init_155 : decode cX23_init 155 = .ok (.putfield 643, 3) := by decide +kernel
theorem dX23_init_158 : decode cX23_init 158 = .ok (.aload_n 0, 1) := by decide +kernel
theorem dX23_init_159 : decode cX23_init 159 = .ok (.sipush 24000, 3) := by decide +kernel
theorem dX23_init_162 : decode cX23_init 162 = .ok (.newarray .int, 2) := by decide +kernel
theorem dX23_init_164 : decode cX23_init 164 = .ok (.putfield 646, 3) := by decide +kernel
theorem dX23_init_167 : decode cX23_init 167 = .ok (.aload_n 0, 1) := by decide +kernel
theorem dX23_init_168 : decode cX23_init 168 = .ok (.sipush 24000, 3) := by decide +kernel
theorem dX23_init_171 : decode cX23_init 171 = .ok (.anewarray 926, 3) := by decide +kernel
theorem dX23_init_174 : decode cX23_init 174 = .ok (.putfield 649, 3) := by decide +kernel
theorem dX23_init_177 : decode cX23_init 177 = .ok (.aload_n 0, 1) := by decide +kernel
theorem dX23_init_178 : decode cX23_init 178 = .ok (.sipush 24000, 3) := by decide +kernel
theorem dX23_init_181 : decode cX23_init 181 = .ok (.anewarray 926, 3) := by decide +kernel
theorem dX23_init_184 : decode cX23_init 184 = .ok (.putfield 653, 3) := by decide +kernel
theorem dX23_init_187 : decode cX23_init 187 = .ok (.aload_n 0, 1) := by decide +kernel
theorem dX23_init_188 : decode cX23_init 188 = .ok (.sipush 24000, 3) := by decide +kernel
theorem dX23_init_191 : decode cX23_init 191 = .ok (.anewarray 678, 3) := by decide +kernel
theorem dX23_init_194 : decode cX23_init 194 = .ok (.putfield 656, 3) := by decide +kernel
theorem dX23_init_197 : decode cX23_init 197 = .ok (.aload_n 0, 1) := by decide +kernel
theorem dX23_init_198 : decode cX23_init 198 = .ok (.sipush 24000, 3) := by decide +kernel
theorem dX23_init_201 : decode cX23_init 201 = .ok (.anewarray 164, 3) := by decide +kernel
theorem dX23_init_204 : decode cX23_init 204 = .ok (.putfield 660, 3) := by decide +kernel
theorem dX23_init_207 : decode cX23_init 207 = .ok (.aload_n 0, 1) := by decide +kernel
theorem dX23_init_208 : decode cX23_init 208 = .ok (.sipush 24000, 3) := by decide +kernel
theorem dX23_init_211 : decode cX23_init 211 = .ok (.anewarray 192, 3) := by decide +kernel
theorem dX23_init_214 : decode cX23_init 214 = .ok (.putfield 663, 3) := by decide +kernel
theorem dX23_init_217 : decode cX23_init 217 = .ok (.aload_n 0, 1) := by decide +kernel
theorem dX23_init_218 : decode cX23_init 218 = .ok (.sipush 24000, 3) := by decide +kernel
theorem dX23_init_221 : decode cX23_init 221 = .ok (.anewarray 315, 3) := by decide +kernel
theorem dX23_init_224 : decode cX23_init 224 = .ok (.putfield 665, 3) := by decide +kernel
theorem dX23_init_227 : decode cX23_init 227 = .ok (.aload_n 0, 1) := by decide +kernel
theorem dX23_init_228 : decode cX23_init 228 = .ok (.sipush 24000, 3) := by decide +kernel
theorem dX23_init_231 : decode cX23_init 231 = .ok (.anewarray 926, 3) := by decide +kernel
theorem dX23_init_234 : decode cX23_init 234 = .ok (.putfield 668, 3) := by decide +kernel
theorem dX23_init_237 : decode cX23_init 237 = .ok (.aload_n 0, 1) := by decide +kernel
theorem dX23_init_238 : decode cX23_init 238 = .ok (.sipush 160, 3) := by decide +kernel
theorem dX23_init_241 : decode cX23_init 241 = .ok (.anewarray 678, 3) := by decide +kernel
theorem dX23_init_244 : decode cX23_init 244 = .ok (.putfield 720, 3) := by decide +kernel
theorem dX23_init_247 : decode cX23_init 247 = .ok (.aload_n 0, 1) := by decide +kernel
theorem dX23_init_248 : decode cX23_init 248 = .ok (.sipush 160, 3) := by decide +kernel
theorem dX23_init_251 : decode cX23_init 251 = .ok (.newarray .boolean, 2) := by decide +kernel
theorem dX23_init_253 : decode cX23_init 253 = .ok (.putfield 726, 3) := by decide +kernel
theorem dX23_init_256 : decode cX23_init 256 = .ok (.aload_n 0, 1) := by decide +kernel
theorem dX23_init_257 : decode cX23_init 257 = .ok (.sipush 160, 3) := by decide +kernel
theorem dX23_init_260 : decode cX23_init 260 = .ok (.newarray .int, 2) := by decide +kernel
theorem dX23_init_262 : decode cX23_init 262 = .ok (.putfield 729, 3) := by decide +kernel
theorem dX23_init_265 : decode cX23_init 265 = .ok (.aload_n 0, 1) := by decide +kernel
theorem dX23_init_266 : decode cX23_init 266 = .ok (.sipush 160, 3) := by decide +kernel
theorem dX23_init_269 : decode cX23_init 269 = .ok (.newarray .int, 2) := by decide +kernel
theorem dX23_init_271 : decode cX23_init 271 = .ok (.putfield 810, 3) := by decide +kernel
theorem dX23_init_274 : decode cX23_init 274 = .ok (.aload_n 0, 1) := by decide +kernel
theorem dX23_init_275 : decode cX23_init 275 = .ok (.bipush 40, 2) := by decide +kernel
theorem dX23_init_277 : decode cX23_init 277 = .ok (.anewarray 192, 3) := by decide +kernel
theorem dX23_init_280 : decode cX23_init 280 = .ok (.putfield 763, 3) := by decide +kernel
theorem dX23_init_283 : decode cX23_init 283 = .ok (.aload_n 0, 1) := by decide +kernel
theorem dX23_init_284 : decode cX23_init 284 = .ok (.sipush 256, 3) := by decide +kernel
theorem dX23_init_287 : decode cX23_init 287 = .ok (.anewarray 926, 3) := by decide +kernel
theorem dX23_init_290 : decode cX23_init 290 = .ok (.putfield 671, 3) := by decide +kernel
theorem dX23_init_293 : decode cX23_init 293 = .ok (.aload_n 0, 1) := by decide +kernel
theorem dX23_init_294 : decode cX23_init 294 = .ok (.sipush 24000, 3) := by decide +kernel
theorem dX23_init_297 : decode cX23_init 297 = .ok (.newarray .boolean, 2) := by decide +kernel
theorem dX23_init_299 : decode cX23_init 299 = .ok (.putfield 814, 3) := by decide +kernel
theorem dX23_init_302 : decode cX23_init 302 = .ok (.aload_n 0, 1) := by decide +kernel
theorem dX23_init_303 : decode cX23_init 303 = .ok (.ldc_w 927, 3) := by decide +kernel
theorem dX23_init_306 : decode cX23_init 306 = .ok (.newarray .long, 2) := by decide +kernel
theorem dX23_init_308 : decode cX23_init 308 = .ok (.putfield 838, 3) := by decide +kernel
theorem dX23_init_311 : decode cX23_init 311 = .ok (.aload_n 0, 1) := by decide +kernel
theorem dX23_init_312 : decode cX23_init 312 = .ok (.ldc_w 927, 3) := by decide +kernel
theorem dX23_init_315 : decode cX23_init 315 = .ok (.newarray .long, 2) := by decide +kernel
theorem dX23_init_317 : decode cX23_init 317 = .ok (.putfield 841, 3) := by decide +kernel
theorem dX23_init_320 : decode cX23_init 320 = .ok (.aload_n 0, 1) := by decide +kernel
theorem dX23_init_321 : decode cX23_init 321 = .ok (.bipush 10, 2) := by decide +kernel
theorem dX23_init_323 : decode cX23_init 323 = .ok (.newarray .long, 2) := by decide +kernel
theorem dX23_init_325 : decode cX23_init 325 = .ok (.putfield 835, 3) := by decide +kernel
theorem dX23_init_328 : decode cX23_init 328 = .ok (.aload_n 0, 1) := by decide +kernel
theorem dX23_init_329 : decode cX23_init 329 = .ok (.bipush 10, 2) := by decide +kernel
theorem dX23_init_331 : decode cX23_init 331 = .ok (.newarray .long, 2) := by decide +kernel
theorem dX23_init_333 : decode cX23_init 333 = .ok (.putfield 828, 3) := by decide +kernel
theorem dX23_init_336 : decode cX23_init 336 = .ok (.aload_n 0, 1) := by decide +kernel
theorem dX23_init_337 : decode cX23_init 337 = .ok (.ldc_w 928, 3) := by decide +kernel
theorem dX23_init_340 : decode cX23_init 340 = .ok (.newarray .long, 2) := by decide +kernel
theorem dX23_init_342 : decode cX23_init 342 = .ok (.putfield 876, 3) := by decide +kernel
theorem dX23_init_345 : decode cX23_init 345 = .ok (.aload_n 0, 1) := by decide +kernel
theorem dX23_init_346 : decode cX23_init 346 = .ok (.ldc_w 928, 3) := by decide +kernel
theorem dX23_init_349 : decode cX23_init 349 = .ok (.newarray .long, 2) := by decide +kernel
theorem dX23_init_351 : decode cX23_init 351 = .ok (.putfield 884, 3) := by decide +kernel
theorem dX23_init_354 : decode cX23_init 354 = .ok (.aload_n 0, 1) := by decide +kernel
theorem dX23_init_355 : decode cX23_init 355 = .ok (.iconst 4, 1) := by decide +kernel
theorem dX23_init_356 : decode cX23_init 356 = .ok (.newarray .long, 2) := by decide +kernel
theorem dX23_init_358 : decode cX23_init 358 = .ok (.putfield 881, 3) := by decide +kernel
theorem dX23_init_361 : decode cX23_init 361 = .ok (.aload_n 0, 1) := by decide +kernel
theorem dX23_init_362 : decode cX23_init 362 = .ok (.ldc_w 929, 3) := by decide +kernel
theorem dX23_init_365 : decode cX23_init 365 = .ok (.newarray .long, 2) := by decide +kernel
theorem dX23_init_367 : decode cX23_init 367 = .ok (.putfield 930, 3) := by decide +kernel
theorem dX23_init_370 : decode cX23_init 370 = .ok (.aload_n 0, 1) := by decide +kernel
theorem dX23_init_371 : decode cX23_init 371 = .ok (.ldc_w 929, 3) := by decide +kernel
theorem dX23_init_374 : decode cX23_init 374 = .ok (.newarray .boolean, 2) := by decide +kernel
theorem dX23_init_376 : decode cX23_init 376 = .ok (.putfield 933, 3) := by decide +kernel
theorem dX23_init_379 : decode cX23_init 379 = .ok (.aload_n 0, 1) := by decide +kernel
theorem dX23_init_380 : decode cX23_init 380 = .ok (.ldc_w 929, 3) := by decide +kernel
theorem dX23_init_383 : decode cX23_init 383 = .ok (.newarray .int, 2) := by decide +kernel
theorem dX23_init_385 : decode cX23_init 385 = .ok (.putfield 936, 3) := by decide +kernel
theorem dX23_init_388 : decode cX23_init 388 = .ok (.aload_n 0, 1) := by decide +kernel
theorem dX23_init_389 : decode cX23_init 389 = .ok (.sipush 4000, 3) := by decide +kernel
theorem dX23_init_392 : decode cX23_init 392 = .ok (.newarray .boolean, 2) := by decide +kernel
end
section
theorem dX23_init_394 : decode cX23_init 394 = .ok (.putfield 939, 3) := by decide +kernel
theorem dX23_init_397 : decode cX23_init 397 = .ok (.aload_n 0, 1) := by decide +kernel
theorem dX23_init_398 : decode cX23_init 398 = .ok (.sipush 20000, 3) := by decide +kernel
theorem dX23_init_401 : decode cX23_init 401 = .ok (.newarray .long, 2) := by decide +kernel
theorem dX23_init_403 : decode cX23_init 403 = .ok (.putfield 942, 3) := by decide +kernel
theorem dX23_init_406 : decode cX23_init 406 = .ok (.aload_n 0, 1) := by decide +kernel
theorem dX23_init_407 : decode cX23_init 407 = .ok (.sipush 2440, 3) := by decide +kernel
theorem dX23_init_410 : decode cX23_init 410 = .ok (.newarray .int, 2) := by decide +kernel
theorem dX23_init_412 : decode cX23_init 412 = .ok (.putfield 945, 3) := by decide +kernel
theorem dX23_init_415 : decode cX23_init 415 = .ok (.aload_n 0, 1) := by decide +kernel
theorem dX23_init_416 : decode cX23_init 416 = .ok (.bipush 61, 2) := by decide +kernel
theorem dX23_init_418 : decode cX23_init 418 = .ok (.newarray .int, 2) := by decide +kernel
theorem dX23_init_420 : decode cX23_init 420 = .ok (.putfield 947, 3) := by decide +kernel
theorem dX23_init_423 : decode cX23_init 423 = .ok (.aload_n 0, 1) := by decide +kernel
theorem dX23_init_424 : decode cX23_init 424 = .ok (.ldc_w 950, 3) := by decide +kernel
theorem dX23_init_427 : decode cX23_init 427 = .ok (.newarray .int, 2) := by decide +kernel
theorem dX23_init_429 : decode cX23_init 429 = .ok (.putfield 951, 3) := by decide +kernel
theorem dX23_init_432 : decode cX23_init 432 = .ok (.aload_n 0, 1) := by decide +kernel
theorem dX23_init_433 : decode cX23_init 433 = .ok (.ldc_w 950, 3) := by decide +kernel
theorem dX23_init_436 : decode cX23_init 436 = .ok (.newarray .int, 2) := by decide +kernel
theorem dX23_init_438 : decode cX23_init 438 = .ok (.putfield 954, 3) := by decide +kernel
theorem dX23_init_441 : decode cX23_init 441 = .ok (.aload_n 0, 1) := by decide +kernel
theorem dX23_init_442 : decode cX23_init 442 = .ok (.ldc_w 950, 3) := by decide +kernel
theorem dX23_init_445 : decode cX23_init 445 = .ok (.newarray .int, 2) := by decide +kernel
theorem dX23_init_447 : decode cX23_init 447 = .ok (.putfield 957, 3) := by decide +kernel
theorem dX23_init_450 : decode cX23_init 450 = .ok (.aload_n 0, 1) := by decide +kernel
theorem dX23_init_451 : decode cX23_init 451 = .ok (.sipush 4000, 3) := by decide +kernel
theorem dX23_init_454 : decode cX23_init 454 = .ok (.newarray .int, 2) := by decide +kernel
theorem dX23_init_456 : decode cX23_init 456 = .ok (.putfield 960, 3) := by decide +kernel
theorem dX23_init_459 : decode cX23_init 459 = .ok (.aload_n 0, 1) := by decide +kernel
theorem dX23_init_460 : decode cX23_init 460 = .ok (.bipush 60, 2) := by decide +kernel
theorem dX23_init_462 : decode cX23_init 462 = .ok (.newarray .long, 2) := by decide +kernel
theorem dX23_init_464 : decode cX23_init 464 = .ok (.putfield 963, 3) := by decide +kernel
theorem dX23_init_467 : decode cX23_init 467 = .ok (.aload_n 0, 1) := by decide +kernel
theorem dX23_init_468 : decode cX23_init 468 = .ok (.iconst (-1), 1) := by decide +kernel
theorem dX23_init_469 : decode cX23_init 469 = .ok (.putfield 966, 3) := by decide +kernel
theorem dX23_init_472 : decode cX23_init 472 = .ok (.aload_n 0, 1) := by decide +kernel
theorem dX23_init_473 : decode cX23_init 473 = .ok (.iload_n 1, 1) := by decide +kernel
theorem dX23_init_474 : decode cX23_init 474 = .ok (.bipush 16, 2) := by decide +kernel
theorem dX23_init_476 : decode cX23_init 476 = .ok (.if_icmp .lt 14, 3) := by decide +kernel
theorem dX23_init_479 : decode cX23_init 479 = .ok (.iload_n 1, 1) := by decide +kernel
theorem dX23_init_480 : decode cX23_init 480 = .ok (.sipush 4000, 3) := by decide +kernel
theorem dX23_init_483 : decode cX23_init 483 = .ok (.if_icmp .gt 7, 3) := by decide +kernel
theorem dX23_init_486 : decode cX23_init 486 = .ok (.iload_n 1, 1) := by decide +kernel
theorem dX23_init_487 : decode cX23_init 487 = .ok (.goto 6, 3) := by decide +kernel
theorem dX23_init_490 : decode cX23_init 490 = .ok (.sipush 500, 3) := by decide +kernel
theorem dX23_init_493 : decode cX23_init 493 = .ok (.putfield 968, 3) := by decide +kernel
theorem dX23_init_496 : decode cX23_init 496 = .ok (.return_, 1) := by decide +kernel
theorem dX23_feed_0 : decode cX23_feed 0 = .ok (.aload_n 0, 1) := by decide +kernel
theorem dX23_feed_1 : decode cX23_feed 1 = .ok (.getfield 1167, 3) := by decide +kernel
theorem dX23_feed_4 : decode cX23_feed 4 = .ok (.bipush 20, 2) := by decide +kernel
theorem dX23_feed_6 : decode cX23_feed 6 = .ok (.iadd, 1) := by decide +kernel
theorem dX23_feed_7 : decode cX23_feed 7 = .ok (.sipush 3000, 3) := by decide +kernel
theorem dX23_feed_10 : decode cX23_feed 10 = .ok (.if_icmp .le 5, 3) := by decide +kernel
theorem dX23_feed_13 : decode cX23_feed 13 = .ok (.iconst 0, 1) := by decide +kernel
theorem dX23_feed_14 : decode cX23_feed 14 = .ok (.ireturn, 1) := by decide +kernel
theorem dX23_feed_15 : decode cX23_feed 15 = .ok (.aload_n 0, 1) := by decide +kernel
theorem dX23_feed_16 : decode cX23_feed 16 = .ok (.iload_n 1, 1) := by decide +kernel
theorem dX23_feed_17 : decode cX23_feed 17 = .ok (.invokevirtual 1170, 3) := by decide +kernel
theorem dX23_feed_20 : decode cX23_feed 20 = .ok (.aload_n 0, 1) := by decide +kernel
theorem dX23_feed_21 : decode cX23_feed 21 = .ok (.iload_n 2, 1) := by decide +kernel
theorem dX23_feed_22 : decode cX23_feed 22 = .ok (.invokevirtual 1170, 3) := by decide +kernel
theorem dX23_feed_25 : decode cX23_feed 25 = .ok (.aload_n 0, 1) := by decide +kernel
theorem dX23_feed_26 : decode cX23_feed 26 = .ok (.iload_n 3, 1) := by decide +kernel
theorem dX23_feed_27 : decode cX23_feed 27 = .ok (.invokevirtual 1170, 3) := by decide +kernel
theorem dX23_feed_30 : decode cX23_feed 30 = .ok (.aload_n 0, 1) := by decide +kernel
theorem dX23_feed_31 : decode cX23_feed 31 = .ok (.iload 4, 2) := by decide +kernel
theorem dX23_feed_33 : decode cX23_feed 33 = .ok (.invokevirtual 1170, 3) := by decide +kernel
theorem dX23_feed_36 : decode cX23_feed 36 = .ok (.aload_n 0, 1) := by decide +kernel
theorem dX23_feed_37 : decode cX23_feed 37 = .ok (.iload 5, 2) := by decide +kernel
theorem dX23_feed_39 : decode cX23_feed 39 = .ok (.invokevirtual 1170, 3) := by decide +kernel
theorem dX23_feed_42 : decode cX23_feed 42 = .ok (.iconst 1, 1) := by decide +kernel
theorem dX23_feed_43 : decode cX23_feed 43 = .ok (.ireturn, 1) := by decide +kernel
theorem dX23_feedWord_0 : decode cX23_feedWord 0 = .ok (.bipush 24, 2) := by decide +kernel
theorem dX23_feedWord_2 : decode cX23_feedWord 2 = .ok (.istore_n 2, 1) := by decide +kernel
theorem dX23_feedWord_3 : decode cX23_feedWord 3 = .ok (.iload_n 2, 1) := by decide +kernel
theorem dX23_feedWord_4 : decode cX23_feedWord 4 = .ok (.ifCond .lt 35, 3) := by decide +kernel
theorem dX23_feedWord_7 : decode cX23_feedWord 7 = .ok (.aload_n 0, 1) := by decide +kernel
theorem dX23_feedWord_8 : decode cX23_feedWord 8 = .ok (.getfield 7, 3) := by decide +kernel
theorem dX23_feedWord_11 : decode cX23_feedWord 11 = .ok (.aload_n 0, 1) := by decide +kernel
theorem dX23_feedWord_12 : decode cX23_feedWord 12 = .ok (.getfield 1167, 3) := by decide +kernel
theorem dX23_feedWord_15 : decode cX23_feedWord 15 = .ok (.iload_n 1, 1) := by decide +kernel
theorem dX23_feedWord_16 : decode cX23_feedWord 16 = .ok (.iload_n 2, 1) := by decide +kernel
theorem dX23_feedWord_17 : decode cX23_feedWord 17 = .ok (.ishr, 1) := by decide +kernel
theorem dX23_feedWord_18 : decode cX23_feedWord 18 = .ok (.sipush 255, 3) := by decide +kernel
theorem dX23_feedWord_21 : decode cX23_feedWord 21 = .ok (.iand, 1) := by decide +kernel
theorem dX23_feedWord_22 : decode cX23_feedWord 22 = .ok (.iastore, 1) := by decide +kernel
theorem dX23_feedWord_23 : decode cX23_feedWord 23 = .ok (.aload_n 0, 1) := by decide +kernel
theorem dX23_feedWord_24 : decode cX23_feedWord 24 = .ok (.dup, 1) := by decide +kernel
theorem dX23_feedWord_25 : decode cX23_feedWord 25 = .ok (.getfield 1167, 3) := by decide +kernel
theorem dX23_feedWord_28 : decode cX23_feedWord 28 = .ok (.iconst 1, 1) := by decide +kernel
theorem dX23_feedWord_29 : decode cX23_feedWord 29 = .ok (.iadd, 1) := by decide +kernel
theorem dX23_feedWord_30 : decode cX23_feedWord 30 = .ok (.putfield 1167, 3) := by decide +kernel
theorem dX23_feedWord_33 : decode cX23_feedWord 33 = .ok (.iinc 2 (-8), 3) := by decide +kernel
theorem dX23_feedWord_36 : decode cX23_feedWord 36 = .ok (.goto (-33), 3) := by decide +kernel
theorem dX23_feedWord_39 : decode cX23_feedWord 39 = .ok (.return_, 1) := by decide +kernel
theorem dX23_input_0 : decode cX23_input 0 = .ok (.aload_n 0, 1) := by decide +kernel
theorem dX23_input_1 : decode cX23_input 1 = .ok (.getfield 1113, 3) := by decide +kernel
theorem dX23_input_4 : decode cX23_input 4 = .ok (.bipush 60, 2) := by decide +kernel
theorem dX23_input_6 : decode cX23_input 6 = .ok (.if_icmp .ne 5, 3) := by decide +kernel
theorem dX23_input_9 : decode cX23_input 9 = .ok (.iconst 0, 1) := by decide +kernel
theorem dX23_input_10 : decode cX23_input 10 = .ok (.ireturn, 1) := by decide +kernel
theorem dX23_input_11 : decode cX23_input 11 = .ok (.aload_n 0, 1) := by decide +kernel
theorem dX23_input_12 : decode cX23_input 12 = .ok (.getfield 963, 3) := by decide +kernel
theorem dX23_input_15 : decode cX23_input 15 = .ok (.aload_n 0, 1) := by decide +kernel
theorem dX23_input_16 : decode cX23_input 16 = .ok (.getfield 1113, 3) := by decide +kernel
theorem dX23_input_19 : decode cX23_input 19 = .ok (.lload_n 1, 1) := by decide +kernel
theorem dX23_input_20 : decode cX23_input 20 = .ok (.lastore, 1) := by decide +kernel
theorem dX23_input_21 : decode cX23_input 21 = .ok (.aload_n 0, 1) := by decide +kernel
theorem dX23_input_22 : decode cX23_input 22 = .ok (.dup, 1) := by decide +kernel
theorem dX23_input_23 : decode cX23_input 23 = .ok (.getfield 1113, 3) := by decide +kernel
theorem dX23_input_26 : decode cX23_input 26 = .ok (.iconst 1, 1) := by decide +kernel
theorem dX23_input_27 : decode cX23_input 27 = .ok (.iadd, 1) := by decide +kernel
theorem dX23_input_28 : decode cX23_input 28 = .ok (.putfield 1113, 3) := by decide +kernel
theorem dX23_input_31 : decode cX23_input 31 = .ok (.iconst 1, 1) := by decide +kernel
theorem dX23_input_32 : decode cX23_input 32 = .ok (.ireturn, 1) := by decide +kernel
theorem dX23_run_0 : decode cX23_run 0 = .ok (.iload_n 1, 1) := by decide +kernel
theorem dX23_run_1 : decode cX23_run 1 = .ok (.ifCond .lt 22, 3) := by decide +kernel
theorem dX23_run_4 : decode cX23_run 4 = .ok (.iload_n 1, 1) := by decide +kernel
theorem dX23_run_5 : decode cX23_run 5 = .ok (.aload_n 0, 1) := by decide +kernel
theorem dX23_run_6 : decode cX23_run 6 = .ok (.getfield 1167, 3) := by decide +kernel
theorem dX23_run_9 : decode cX23_run 9 = .ok (.if_icmp .gt 14, 3) := by decide +kernel
theorem dX23_run_12 : decode cX23_run 12 = .ok (.iload_n 2, 1) := by decide +kernel
theorem dX23_run_13 : decode cX23_run 13 = .ok (.ifCond .lt 10, 3) := by decide +kernel
theorem dX23_run_16 : decode cX23_run 16 = .ok (.iload_n 2, 1) := by decide +kernel
theorem dX23_run_17 : decode cX23_run 17 = .ok (.sipush 20000, 3) := by decide +kernel
theorem dX23_run_20 : decode cX23_run 20 = .ok (.if_icmp .le 5, 3) := by decide +kernel
theorem dX23_run_23 : decode cX23_run 23 = .ok (.iconst (-1), 1) := by decide +kernel
theorem dX23_run_24 : decode cX23_run 24 = .ok (.ireturn, 1) := by decide +kernel
theorem dX23_run_25 : decode cX23_run 25 = .ok (.aload_n 0, 1) := by decide +kernel
theorem dX23_run_26 : decode cX23_run 26 = .ok (.iload_n 1, 1) := by decide +kernel
theorem dX23_run_27 : decode cX23_run 27 = .ok (.putfield 1, 3) := by decide +kernel
theorem dX23_run_30 : decode cX23_run 30 = .ok (.aload_n 0, 1) := by decide +kernel
theorem dX23_run_31 : decode cX23_run 31 = .ok (.iconst 0, 1) := by decide +kernel
theorem dX23_run_32 : decode cX23_run 32 = .ok (.putfield 1167, 3) := by decide +kernel
theorem dX23_run_35 : decode cX23_run 35 = .ok (.aload_n 0, 1) := by decide +kernel
theorem dX23_run_36 : decode cX23_run 36 = .ok (.iconst 0, 1) := by decide +kernel
theorem dX23_run_37 : decode cX23_run 37 = .ok (.putfield 80, 3) := by decide +kernel
theorem dX23_run_40 : decode cX23_run 40 = .ok (.aload_n 0, 1) := by decide +kernel
theorem dX23_run_41 : decode cX23_run 41 = .ok (.iconst (-1), 1) := by decide +kernel
theorem dX23_run_42 : decode cX23_run 42 = .ok (.putfield 83, 3) := by decide +kernel
theorem dX23_run_45 : decode cX23_run 45 = .ok (.aload_n 0, 1) := by decide +kernel
theorem dX23_run_46 : decode cX23_run 46 = .ok (.iload_n 2, 1) := by decide +kernel
theorem dX23_run_47 : decode cX23_run 47 = .ok (.putfield 1093, 3) := by decide +kernel
theorem dX23_run_50 : decode cX23_run 50 = .ok (.aload_n 0, 1) := by decide +kernel
theorem dX23_run_51 : decode cX23_run 51 = .ok (.iconst 0, 1) := by decide +kernel
theorem dX23_run_52 : decode cX23_run 52 = .ok (.putfield 1002, 3) := by decide +kernel
theorem dX23_run_55 : decode cX23_run 55 = .ok (.aload_n 0, 1) := by decide +kernel
theorem dX23_run_56 : decode cX23_run 56 = .ok (.iconst 0, 1) := by decide +kernel
theorem dX23_run_57 : decode cX23_run 57 = .ok (.putfield 1008, 3) := by decide +kernel
theorem dX23_run_60 : decode cX23_run 60 = .ok (.aload_n 0, 1) := by decide +kernel
theorem dX23_run_61 : decode cX23_run 61 = .ok (.invokevirtual 1173, 3) := by decide +kernel
theorem dX23_run_64 : decode cX23_run 64 = .ok (.aload_n 0, 1) := by decide +kernel
theorem dX23_run_65 : decode cX23_run 65 = .ok (.invokevirtual 1176, 3) := by decide +kernel
theorem dX23_run_68 : decode cX23_run 68 = .ok (.aload_n 0, 1) := by decide +kernel
theorem dX23_run_69 : decode cX23_run 69 = .ok (.invokevirtual 89, 3) := by decide +kernel
theorem dX23_run_72 : decode cX23_run 72 = .ok (.ifCond .eq 7, 3) := by decide +kernel
theorem dX23_run_75 : decode cX23_run 75 = .ok (.aload_n 0, 1) := by decide +kernel
theorem dX23_run_76 : decode cX23_run 76 = .ok (.invokevirtual 1179, 3) := by decide +kernel
theorem dX23_run_79 : decode cX23_run 79 = .ok (.aload_n 0, 1) := by decide +kernel
theorem dX23_run_80 : decode cX23_run 80 = .ok (.invokevirtual 89, 3) := by decide +kernel
theorem dX23_run_83 : decode cX23_run 83 = .ok (.ifCond .eq 7, 3) := by decide +kernel
theorem dX23_run_86 : decode cX23_run 86 = .ok (.aload_n 0, 1) := by decide +kernel
theorem dX23_run_87 : decode cX23_run 87 = .ok (.invokevirtual 1182, 3) := by decide +kernel
theorem dX23_run_90 : decode cX23_run 90 = .ok (.aload_n 0, 1) := by decide +kernel
theorem dX23_run_91 : decode cX23_run 91 = .ok (.aload_n 0, 1) := by decide +kernel
theorem dX23_run_92 : decode cX23_run 92 = .ok (.invokevirtual 89, 3) := by decide +kernel
theorem dX23_run_95 : decode cX23_run 95 = .ok (.ifCond .eq 7, 3) := by decide +kernel
theorem dX23_run_98 : decode cX23_run 98 = .ok (.iconst (-1), 1) := by decide +kernel
theorem dX23_run_99 : decode cX23_run 99 = .ok (.goto 7, 3) := by decide +kernel
theorem dX23_run_102 : decode cX23_run 102 = .ok (.aload_n 0, 1) := by decide +kernel
theorem dX23_run_103 : decode cX23_run 103 = .ok (.getfield 83, 3) := by decide +kernel
theorem dX23_run_106 : decode cX23_run 106 = .ok (.putfield 966, 3) := by decide +kernel
theorem dX23_run_109 : decode cX23_run 109 = .ok (.aload_n 0, 1) := by decide +kernel
theorem dX23_run_110 : decode cX23_run 110 = .ok (.invokevirtual 89, 3) := by decide +kernel
theorem dX23_run_113 : decode cX23_run 113 = .ok (.ifCond .eq 7, 3) := by decide +kernel
theorem dX23_run_116 : decode cX23_run 116 = .ok (.aload_n 0, 1) := by decide +kernel
theorem dX23_run_117 : decode cX23_run 117 = .ok (.invokevirtual 1185, 3) := by decide +kernel
theorem dX23_run_120 : decode cX23_run 120 = .ok (.aload_n 0, 1) := by decide +kernel
theorem dX23_run_121 : decode cX23_run 121 = .ok (.aload_n 0, 1) := by decide +kernel
theorem dX23_run_122 : decode cX23_run 122 = .ok (.getfield 1093, 3) := by decide +kernel
theorem dX23_run_125 : decode cX23_run 125 = .ok (.putfield 1188, 3) := by decide +kernel
theorem dX23_run_128 : decode cX23_run 128 = .ok (.aload_n 0, 1) := by decide +kernel
theorem dX23_run_129 : decode cX23_run 129 = .ok (.getfield 80, 3) := by decide +kernel
theorem dX23_run_132 : decode cX23_run 132 = .ok (.ireturn, 1) := by decide +kernel
theorem dX23_place_0 : decode cX23_place 0 = .ok (.aload_n 0, 1) := by decide +kernel
theorem dX23_place_1 : decode cX23_place 1 = .ok (.invokevirtual 89, 3) := by decide +kernel
theorem dX23_place_4 : decode cX23_place 4 = .ok (.ifCond .ne 14, 3) := by decide +kernel
theorem dX23_place_7 : decode cX23_place 7 = .ok (.aload_n 0, 1) := by decide +kernel
theorem dX23_place_8 : decode cX23_place 8 = .ok (.aload_n 1, 1) := by decide +kernel
theorem dX23_place_9 : decode cX23_place 9 = .ok (.aload_n 0, 1) := by decide +kernel
theorem dX23_place_10 : decode cX23_place 10 = .ok (.iconst 0, 1) := by decide +kernel
theorem dX23_place_11 : decode cX23_place 11 = .ok (.invokevirtual 405, 3) := by decide +kernel
theorem dX23_place_14 : decode cX23_place 14 = .ok (.invokevirtual 485, 3) := by decide +kernel
theorem dX23_place_17 : decode cX23_place 17 = .ok (.areturn, 1) := by decide +kernel
theorem dX23_place_18 : decode cX23_place 18 = .ok (.aload_n 1, 1) := by decide +kernel
theorem dX23_place_19 : decode cX23_place 19 = .ok (.getfield 330, 3) := by decide +kernel
theorem dX23_place_22 : decode cX23_place 22 = .ok (.bipush 7, 2) := by decide +kernel
theorem dX23_place_24 : decode cX23_place 24 = .ok (.if_icmp .ne 17, 3) := by decide +kernel
theorem dX23_place_27 : decode cX23_place 27 = .ok (.aload_n 0, 1) := by decide +kernel
theorem dX23_place_28 : decode cX23_place 28 = .ok (.aload_n 1, 1) := by decide +kernel
theorem dX23_place_29 : decode cX23_place 29 = .ok (.aload_n 0, 1) := by decide +kernel
theorem dX23_place_30 : decode cX23_place 30 = .ok (.aload_n 1, 1) := by decide +kernel
theorem dX23_place_31 : decode cX23_place 31 = .ok (.getfield 331, 3) := by decide +kernel
theorem dX23_place_34 : decode cX23_place 34 = .ok (.invokevirtual 489, 3) := by decide +kernel
theorem dX23_place_37 : decode cX23_place 37 = .ok (.invokevirtual 485, 3) := by decide +kernel
theorem dX23_place_40 : decode cX23_place 40 = .ok (.areturn, 1) := by decide +kernel
theorem dX23_place_41 : decode cX23_place 41 = .ok (.aload_n 1, 1) := by decide +kernel
theorem dX23_place_42 : decode cX23_place 42 = .ok (.getfield 330, 3) := by decide +kernel
theorem dX23_place_45 : decode cX23_place 45 = .ok (.iconst 2, 1) := by decide +kernel
theorem dX23_place_46 : decode cX23_place 46 = .ok (.if_icmp .ne 108, 3) := by decide +kernel
theorem dX23_place_49 : decode cX23_place 49 = .ok (.aload_n 1, 1) := by decide +kernel
theorem dX23_place_50 : decode cX23_place 50 = .ok (.aconst_null, 1) := by decide +kernel
theorem dX23_place_51 : decode cX23_place 51 = .ok (.putfield 492, 3) := by decide +kernel
theorem dX23_place_54 : decode cX23_place 54 = .ok (.iconst 0, 1) := by decide +kernel
theorem dX23_place_55 : decode cX23_place 55 = .ok (.istore_n 2, 1) := by decide +kernel
theorem dX23_place_56 : decode cX23_place 56 = .ok (.iload_n 2, 1) := by decide +kernel
theorem dX23_place_57 : decode cX23_place 57 = .ok (.aload_n 0, 1) := by decide +kernel
theorem dX23_place_58 : decode cX23_place 58 = .ok (.getfield 477, 3) := by decide +kernel
theorem dX23_place_61 : decode cX23_place 61 = .ok (.if_icmp .ge 39, 3) := by decide +kernel
theorem dX23_place_64 : decode cX23_place 64 = .ok (.aload_n 0, 1) := by decide +kernel
theorem dX23_place_65 : decode cX23_place 65 = .ok (.aload_n 0, 1) := by decide +kernel
theorem dX23_place_66 : decode cX23_place 66 = .ok (.getfield 474, 3) := by decide +kernel
theorem dX23_place_69 : decode cX23_place 69 = .ok (.iload_n 2, 1) := by decide +kernel
theorem dX23_place_70 : decode cX23_place 70 = .ok (.aaload, 1) := by decide +kernel
theorem dX23_place_71 : decode cX23_place 71 = .ok (.getfield 470, 3) := by decide +kernel
theorem dX23_place_74 : decode cX23_place 74 = .ok (.aload_n 1, 1) := by decide +kernel
theorem dX23_place_75 : decode cX23_place 75 = .ok (.getfield 362, 3) := by decide +kernel
theorem dX23_place_78 : decode cX23_place 78 = .ok (.invokevirtual 401, 3) := by decide +kernel
theorem dX23_place_81 : decode cX23_place 81 = .ok (.ifCond .eq 13, 3) := by decide +kernel
theorem dX23_place_84 : decode cX23_place 84 = .ok (.aload_n 1, 1) := by decide +kernel
theorem dX23_place_85 : decode cX23_place 85 = .ok (.aload_n 0, 1) := by decide +kernel
theorem dX23_place_86 : decode cX23_place 86 = .ok (.getfield 474, 3) := by decide +kernel
theorem dX23_place_89 : decode cX23_place 89 = .ok (.iload_n 2, 1) := by decide +kernel
theorem dX23_place_90 : decode cX23_place 90 = .ok (.aaload, 1) := by decide +kernel
theorem dX23_place_91 : decode cX23_place 91 = .ok (.putfield 492, 3) := by decide +kernel
theorem dX23_place_94 : decode cX23_place 94 = .ok (.iinc 2 1, 3) := by decide +kernel
theorem dX23_place_97 : decode cX23_place 97 = .ok (.goto (-41), 3) := by decide +kernel
theorem dX23_place_100 : decode cX23_place 100 = .ok (.aload_n 1, 1) := by decide +kernel
theorem dX23_place_101 : decode cX23_place 101 = .ok (.getfield 492, 3) := by decide +kernel
theorem dX23_place_104 : decode cX23_place 104 = .ok (.ifnonnull 14, 3) := by decide +kernel
theorem dX23_place_107 : decode cX23_place 107 = .ok (.aload_n 0, 1) := by decide +kernel
theorem dX23_place_108 : decode cX23_place 108 = .ok (.aload_n 1, 1) := by decide +kernel
theorem dX23_place_109 : decode cX23_place 109 = .ok (.iconst 3, 1) := by decide +kernel
theorem dX23_place_110 : decode cX23_place 110 = .ok (.aload_n 1, 1) := by decide +kernel
theorem dX23_place_111 : decode cX23_place 111 = .ok (.getfield 350, 3) := by decide +kernel
theorem dX23_place_114 : decode cX23_place 114 = .ok (.invokevirtual 496, 3) := by decide +kernel
theorem dX23_place_117 : decode cX23_place 117 = .ok (.areturn, 1) := by decide +kernel
theorem dX23_place_118 : decode cX23_place 118 = .ok (.aload_n 1, 1) := by decide +kernel
theorem dX23_place_119 : decode cX23_place 119 = .ok (.getfield 492, 3) := by decide +kernel
theorem dX23_place_122 : decode cX23_place 122 = .ok (.getfield 471, 3) := by decide +kernel
theorem dX23_place_125 : decode cX23_place 125 = .ok (.ifnonnull 16, 3) := by decide +kernel
theorem dX23_place_128 : decode cX23_place 128 = .ok (.aload_n 0, 1) := by decide +kernel
theorem dX23_place_129 : decode cX23_place 129 = .ok (.aload_n 1, 1) := by decide +kernel
theorem dX23_place_130 : decode cX23_place 130 = .ok (.iconst 4, 1) := by decide +kernel
theorem dX23_place_131 : decode cX23_place 131 = .ok (.aload_n 1, 1) := by decide +kernel
theorem dX23_place_132 : decode cX23_place 132 = .ok (.getfield 350, 3) := by decide +kernel
theorem dX23_place_135 : decode cX23_place 135 = .ok (.invokevirtual 496, 3) := by decide +kernel
theorem dX23_place_138 : decode cX23_place 138 = .ok (.goto 15, 3) := by decide +kernel
theorem dX23_place_141 : decode cX23_place 141 = .ok (.aload_n 0, 1) := by decide +kernel
theorem dX23_place_142 : decode cX23_place 142 = .ok (.aload_n 1, 1) := by decide +kernel
theorem dX23_place_143 : decode cX23_place 143 = .ok (.aload_n 1, 1) := by decide +kernel
theorem dX23_place_144 : decode cX23_place 144 = .ok (.getfield 492, 3) := by decide +kernel
theorem dX23_place_147 : decode cX23_place 147 = .ok (.getfield 471, 3) := by decide +kernel
theorem dX23_place_150 : decode cX23_place 150 = .ok (.invokevirtual 485, 3) := by decide +kernel
theorem dX23_place_153 : decode cX23_place 153 = .ok (.areturn, 1) := by decide +kernel
theorem dX23_place_154 : decode cX23_place 154 = .ok (.aload_n 0, 1) := by decide +kernel
theorem dX23_place_155 : decode cX23_place 155 = .ok (.aload_n 1, 1) := by decide +kernel
theorem dX23_place_156 : decode cX23_place 156 = .ok (.getfield 331, 3) := by decide +kernel
theorem dX23_place_159 : decode cX23_place 159 = .ok (.invokevirtual 489, 3) := by decide +kernel
theorem dX23_place_162 : decode cX23_place 162 = .ok (.astore_n 2, 1) := by decide +kernel
theorem dX23_place_163 : decode cX23_place 163 = .ok (.aload_n 0, 1) := by decide +kernel
theorem dX23_place_164 : decode cX23_place 164 = .ok (.invokevirtual 89, 3) := by decide +kernel
theorem dX23_place_167 : decode cX23_place 167 = .ok (.ifCond .ne 10, 3) := by decide +kernel
theorem dX23_place_170 : decode cX23_place 170 = .ok (.aload_n 0, 1) := by decide +kernel
theorem dX23_place_171 : decode cX23_place 171 = .ok (.aload_n 1, 1) := by decide +kernel
theorem dX23_place_172 : decode cX23_place 172 = .ok (.aload_n 2, 1) := by decide +kernel
theorem dX23_place_173 : decode cX23_place 173 = .ok (.invokevirtual 485, 3) := by decide +kernel
theorem dX23_place_176 : decode cX23_place 176 = .ok (.areturn, 1) := by decide +kernel
theorem dX23_place_177 : decode cX23_place 177 = .ok (.aload_n 1, 1) := by decide +kernel
theorem dX23_place_178 : decode cX23_place 178 = .ok (.getfield 330, 3) := by decide +kernel
theorem dX23_place_181 : decode cX23_place 181 = .ok (.bipush 11, 2) := by decide +kernel
theorem dX23_place_183 : decode cX23_place 183 = .ok (.if_icmp .ne 10, 3) := by decide +kernel
theorem dX23_place_186 : decode cX23_place 186 = .ok (.aload_n 1, 1) := by decide +kernel
theorem dX23_place_187 : decode cX23_place 187 = .ok (.getfield 350, 3) := by decide +kernel
theorem dX23_place_190 : decode cX23_place 190 = .ok (.goto 7, 3) := by decide +kernel
theorem dX23_place_193 : decode cX23_place 193 = .ok (.aload_n 1, 1) := by decide +kernel
theorem dX23_place_194 : decode cX23_place 194 = .ok (.getfield 362, 3) := by decide +kernel
theorem dX23_place_197 : decode cX23_place 197 = .ok (.istore_n 3, 1) := by decide +kernel
theorem dX23_place_198 : decode cX23_place 198 = .ok (.aload_n 1, 1) := by decide +kernel
theorem dX23_place_199 : decode cX23_place 199 = .ok (.getfield 330, 3) := by decide +kernel
theorem dX23_place_202 : decode cX23_place 202 = .ok (.bipush 11, 2) := by decide +kernel
theorem dX23_place_204 : decode cX23_place 204 = .ok (.if_icmp .eq 12, 3) := by decide +kernel
theorem dX23_place_207 : decode cX23_place 207 = .ok (.aload_n 0, 1) := by decide +kernel
theorem dX23_place_208 : decode cX23_place 208 = .ok (.aload_n 1, 1) := by decide +kernel
theorem dX23_place_209 : decode cX23_place 209 = .ok (.aload_n 2, 1) := by decide +kernel
theorem dX23_place_210 : decode cX23_place 210 = .ok (.invokevirtual 500, 3) := by decide +kernel
theorem dX23_place_213 : decode cX23_place 213 = .ok (.goto 37, 3) := by decide +kernel
theorem dX23_place_216 : decode cX23_place 216 = .ok (.aload_n 2, 1) := by decide +kernel
theorem dX23_place_217 : decode cX23_place 217 = .ok (.getfield 386, 3) := by decide +kernel
theorem dX23_place_220 : decode cX23_place 220 = .ok (.iconst 5, 1) := by decide +kernel
theorem dX23_place_221 : decode cX23_place 221 = .ok (.if_icmp .eq 10, 3) := by decide +kernel
theorem dX23_place_224 : decode cX23_place 224 = .ok (.aload_n 2, 1) := by decide +kernel
theorem dX23_place_225 : decode cX23_place 225 = .ok (.invokestatic 503, 3) := by decide +kernel
theorem dX23_place_228 : decode cX23_place 228 = .ok (.ifCond .eq 15, 3) := by decide +kernel
theorem dX23_place_231 : decode cX23_place 231 = .ok (.aload_n 0, 1) := by decide +kernel
theorem dX23_place_232 : decode cX23_place 232 = .ok (.aload_n 1, 1) := by decide +kernel
theorem dX23_place_233 : decode cX23_place 233 = .ok (.aload_n 2, 1) := by decide +kernel
theorem dX23_place_234 : decode cX23_place 234 = .ok (.getfield 390, 3) := by decide +kernel
theorem dX23_place_237 : decode cX23_place 237 = .ok (.invokevirtual 485, 3) := by decide +kernel
theorem dX23_place_240 : decode cX23_place 240 = .ok (.goto 10, 3) := by decide +kernel
theorem dX23_place_243 : decode cX23_place 243 = .ok (.aload_n 0, 1) := by decide +kernel
theorem dX23_place_244 : decode cX23_place 244 = .ok (.aload_n 1, 1) := by decide +kernel
theorem dX23_place_245 : decode cX23_place 245 = .ok (.iconst 4, 1) := by decide +kernel
theorem dX23_place_246 : decode cX23_place 246 = .ok (.iload_n 3, 1) := by decide +kernel
theorem dX23_place_247 : decode cX23_place 247 = .ok (.invokevirtual 496, 3) := by decide +kernel
theorem dX23_place_250 : decode cX23_place 250 = .ok (.astore 4, 2) := by decide +kernel
theorem dX23_place_252 : decode cX23_place 252 = .ok (.aload_n 0, 1) := by decide +kernel
theorem dX23_place_253 : decode cX23_place 253 = .ok (.invokevirtual 89, 3) := by decide +kernel
theorem dX23_place_256 : decode cX23_place 256 = .ok (.ifCond .eq 21, 3) := by decide +kernel
theorem dX23_place_259 : decode cX23_place 259 = .ok (.aload_n 1, 1) := by decide +kernel
theorem dX23_place_260 : decode cX23_place 260 = .ok (.invokestatic 506, 3) := by decide +kernel
theorem dX23_place_263 : decode cX23_place 263 = .ok (.iconst 4, 1) := by decide +kernel
theorem dX23_place_264 : decode cX23_place 264 = .ok (.if_icmp .le 13, 3) := by decide +kernel
theorem dX23_place_267 : decode cX23_place 267 = .ok (.aload_n 0, 1) := by decide +kernel
theorem dX23_place_268 : decode cX23_place 268 = .ok (.aload_n 1, 1) := by decide +kernel
theorem dX23_place_269 : decode cX23_place 269 = .ok (.iconst 4, 1) := by decide +kernel
theorem dX23_place_270 : decode cX23_place 270 = .ok (.iload_n 3, 1) := by decide +kernel
theorem dX23_place_271 : decode cX23_place 271 = .ok (.invokevirtual 496, 3) := by decide +kernel
theorem dX23_place_274 : decode cX23_place 274 = .ok (.goto 5, 3) := by decide +kernel
theorem dX23_place_277 : decode cX23_place 277 = .ok (.aload 4, 2) := by decide +kernel
theorem dX23_place_279 : decode cX23_place 279 = .ok (.areturn, 1) := by decide +kernel
theorem dX23_fetch_0 : decode cX23_fetch 0 = .ok (.aload_n 0, 1) := by decide +kernel
theorem dX23_fetch_1 : decode cX23_fetch 1 = .ok (.getfield 1061, 3) := by decide +kernel
theorem dX23_fetch_4 : decode cX23_fetch 4 = .ok (.bipush 7, 2) := by decide +kernel
theorem dX23_fetch_6 : decode cX23_fetch 6 = .ok (.if_icmp .ge 10, 3) := by decide +kernel
theorem dX23_fetch_9 : decode cX23_fetch 9 = .ok (.aload_n 0, 1) := by decide +kernel
theorem dX23_fetch_10 : decode cX23_fetch 10 = .ok (.getfield 1061, 3) := by decide +kernel
theorem dX23_fetch_13 : decode cX23_fetch 13 = .ok (.goto 5, 3) := by decide +kernel
theorem dX23_fetch_16 : decode cX23_fetch 16 = .ok (.bipush 7, 2) := by decide +kernel
theorem dX23_fetch_18 : decode cX23_fetch 18 = .ok (.istore_n 1, 1) := by decide +kernel
theorem dX23_fetch_19 : decode cX23_fetch 19 = .ok (.iload_n 1, 1) := by decide +kernel
theorem dX23_fetch_20 : decode cX23_fetch 20 = .ok (.i2l, 1) := by decide +kernel
theorem dX23_fetch_21 : decode cX23_fetch 21 = .ok (.lstore_n 2, 1) := by decide +kernel
theorem dX23_fetch_22 : decode cX23_fetch 22 = .ok (.iconst 0, 1) := by decide +kernel
theorem dX23_fetch_23 : decode cX23_fetch 23 = .ok (.istore 4, 2) := by decide +kernel
theorem dX23_fetch_25 : decode cX23_fetch 25 = .ok (.iload 4, 2) := by decide +kernel
theorem dX23_fetch_27 : decode cX23_fetch 27 = .ok (.bipush 7, 2) := by decide +kernel
theorem dX23_fetch_29 : decode cX23_fetch 29 = .ok (.if_icmp .ge 55, 3) := by decide +kernel
theorem dX23_fetch_32 : decode cX23_fetch 32 = .ok (.lload_n 2, 1) := by decide +kernel
theorem dX23_fetch_33 : decode cX23_fetch 33 = .ok (.bipush 8, 2) := by decide +kernel
theorem dX23_fetch_35 : decode cX23_fetch 35 = .ok (.lshl, 1) := by decide +kernel
theorem dX23_fetch_36 : decode cX23_fetch 36 = .ok (.iload 4, 2) := by decide +kernel
theorem dX23_fetch_38 : decode cX23_fetch 38 = .ok (.iload_n 1, 1) := by decide +kernel
theorem dX23_fetch_39 : decode cX23_fetch 39 = .ok (.if_icmp .ge 15, 3) := by decide +kernel
theorem dX23_fetch_42 : decode cX23_fetch 42 = .ok (.aload_n 0, 1) := by decide +kernel
theorem dX23_fetch_43 : decode cX23_fetch 43 = .ok (.getfield 960, 3) := by decide +kernel
theorem dX23_fetch_46 : decode cX23_fetch 46 = .ok (.aload_n 0, 1) := by decide +kernel
theorem dX23_fetch_47 : decode cX23_fetch 47 = .ok (.getfield 1064, 3) := by decide +kernel
theorem dX23_fetch_50 : decode cX23_fetch 50 = .ok (.iaload, 1) := by decide +kernel
theorem dX23_fetch_51 : decode cX23_fetch 51 = .ok (.goto 4, 3) := by decide +kernel
theorem dX23_fetch_54 : decode cX23_fetch 54 = .ok (.iconst 0, 1) := by decide +kernel
theorem dX23_fetch_55 : decode cX23_fetch 55 = .ok (.i2l, 1) := by decide +kernel
theorem dX23_fetch_56 : decode cX23_fetch 56 = .ok (.lor, 1) := by decide +kernel
theorem dX23_fetch_57 : decode cX23_fetch 57 = .ok (.lstore_n 2, 1) := by decide +kernel
theorem dX23_fetch_58 : decode cX23_fetch 58 = .ok (.iload 4, 2) := by decide +kernel
theorem dX23_fetch_60 : decode cX23_fetch 60 = .ok (.iload_n 1, 1) := by decide +kernel
theorem dX23_fetch_61 : decode cX23_fetch 61 = .ok (.if_icmp .ge 17, 3) := by decide +kernel
theorem dX23_fetch_64 : decode cX23_fetch 64 = .ok (.aload_n 0, 1) := by decide +kernel
theorem dX23_fetch_65 : decode cX23_fetch 65 = .ok (.aload_n 0, 1) := by decide +kernel
theorem dX23_fetch_66 : decode cX23_fetch 66 = .ok (.getfield 1064, 3) := by decide +kernel
theorem dX23_fetch_69 : decode cX23_fetch 69 = .ok (.iconst 1, 1) := by decide +kernel
theorem dX23_fetch_70 : decode cX23_fetch 70 = .ok (.iadd, 1) := by decide +kernel
theorem dX23_fetch_71 : decode cX23_fetch 71 = .ok (.sipush 4000, 3) := by decide +kernel
theorem dX23_fetch_74 : decode cX23_fetch 74 = .ok (.irem, 1) := by decide +kernel
theorem dX23_fetch_75 : decode cX23_fetch 75 = .ok (.putfield 1064, 3) := by decide +kernel
theorem dX23_fetch_78 : decode cX23_fetch 78 = .ok (.iinc 4 1, 3) := by decide +kernel
theorem dX23_fetch_81 : decode cX23_fetch 81 = .ok (.goto (-56), 3) := by decide +kernel
theorem dX23_fetch_84 : decode cX23_fetch 84 = .ok (.aload_n 0, 1) := by decide +kernel
theorem dX23_fetch_85 : decode cX23_fetch 85 = .ok (.dup, 1) := by decide +kernel
theorem dX23_fetch_86 : decode cX23_fetch 86 = .ok (.getfield 1061, 3) := by decide +kernel
theorem dX23_fetch_89 : decode cX23_fetch 89 = .ok (.iload_n 1, 1) := by decide +kernel
theorem dX23_fetch_90 : decode cX23_fetch 90 = .ok (.isub, 1) := by decide +kernel
theorem dX23_fetch_91 : decode cX23_fetch 91 = .ok (.putfield 1061, 3) := by decide +kernel
theorem dX23_fetch_94 : decode cX23_fetch 94 = .ok (.lload_n 2, 1) := by decide +kernel
theorem dX23_fetch_95 : decode cX23_fetch 95 = .ok (.lreturn, 1) := by decide +kernel
theorem dX23_count_0 : decode cX23_count 0 = .ok (.iload_n 1, 1) := by decide +kernel
theorem dX23_count_1 : decode cX23_count 1 = .ok (.tableswitch 69 0 5 #[39, 44, 49, 54, 59, 64], 39) := by decide +kernel
theorem dX23_count_40 : decode cX23_count 40 = .ok (.aload_n 0, 1) := by decide +kernel
theorem dX23_count_41 : decode cX23_count 41 = .ok (.getfield 1188, 3) := by decide +kernel
theorem dX23_count_44 : decode cX23_count 44 = .ok (.ireturn, 1) := by decide +kernel
theorem dX23_count_45 : decode cX23_count 45 = .ok (.aload_n 0, 1) := by decide +kernel
theorem dX23_count_46 : decode cX23_count 46 = .ok (.getfield 1002, 3) := by decide +kernel
theorem dX23_count_49 : decode cX23_count 49 = .ok (.ireturn, 1) := by decide +kernel
theorem dX23_count_50 : decode cX23_count 50 = .ok (.aload_n 0, 1) := by decide +kernel
theorem dX23_count_51 : decode cX23_count 51 = .ok (.getfield 1008, 3) := by decide +kernel
theorem dX23_count_54 : decode cX23_count 54 = .ok (.ireturn, 1) := by decide +kernel
theorem dX23_count_55 : decode cX23_count 55 = .ok (.aload_n 0, 1) := by decide +kernel
theorem dX23_count_56 : decode cX23_count 56 = .ok (.getfield 1167, 3) := by decide +kernel
theorem dX23_count_59 : decode cX23_count 59 = .ok (.ireturn, 1) := by decide +kernel
theorem dX23_count_60 : decode cX23_count 60 = .ok (.aload_n 0, 1) := by decide +kernel
theorem dX23_count_61 : decode cX23_count 61 = .ok (.getfield 1061, 3) := by decide +kernel
theorem dX23_count_64 : decode cX23_count 64 = .ok (.ireturn, 1) := by decide +kernel
theorem dX23_count_65 : decode cX23_count 65 = .ok (.aload_n 0, 1) := by decide +kernel
theorem dX23_count_66 : decode cX23_count 66 = .ok (.getfield 1113, 3) := by decide +kernel
theorem dX23_count_69 : decode cX23_count 69 = .ok (.ireturn, 1) := by decide +kernel
theorem dX23_count_70 : decode cX23_count 70 = .ok (.iconst (-1), 1) := by decide +kernel
theorem dX23_count_71 : decode cX23_count 71 = .ok (.ireturn, 1) := by decide +kernel
theorem dX23_scan_0 : decode cX23_scan 0 = .ok (.aload_n 0, 1) := by decide +kernel
theorem dX23_scan_1 : decode cX23_scan 1 = .ok (.iconst 0, 1) := by decide +kernel
theorem dX23_scan_2 : decode cX23_scan 2 = .ok (.putfield 28, 3) := by decide +kernel
theorem dX23_scan_5 : decode cX23_scan 5 = .ok (.aload_n 0, 1) := by decide +kernel
theorem dX23_scan_6 : decode cX23_scan 6 = .ok (.iconst 0, 1) := by decide +kernel
theorem dX23_scan_7 : decode cX23_scan 7 = .ok (.invokevirtual 68, 3) := by decide +kernel
theorem dX23_scan_10 : decode cX23_scan 10 = .ok (.istore_n 1, 1) := by decide +kernel
theorem dX23_scan_11 : decode cX23_scan 11 = .ok (.iload_n 1, 1) := by decide +kernel
theorem dX23_scan_12 : decode cX23_scan 12 = .ok (.aload_n 0, 1) := by decide +kernel
theorem dX23_scan_13 : decode cX23_scan 13 = .ok (.getfield 1, 3) := by decide +kernel
theorem dX23_scan_16 : decode cX23_scan 16 = .ok (.if_icmp .ge 141, 3) := by decide +kernel
theorem dX23_scan_19 : decode cX23_scan 19 = .ok (.aload_n 0, 1) := by decide +kernel
theorem dX23_scan_20 : decode cX23_scan 20 = .ok (.getfield 28, 3) := by decide +kernel
theorem dX23_scan_23 : decode cX23_scan 23 = .ok (.ifCond .eq 18, 3) := by decide +kernel
theorem dX23_scan_26 : decode cX23_scan 26 = .ok (.aload_n 0, 1) := by decide +kernel
theorem dX23_scan_27 : decode cX23_scan 27 = .ok (.getfield 25, 3) := by decide +kernel
theorem dX23_scan_30 : decode cX23_scan 30 = .ok (.aload_n 0, 1) := by decide +kernel
theorem dX23_scan_31 : decode cX23_scan 31 = .ok (.getfield 28, 3) := by decide +kernel
theorem dX23_scan_34 : decode cX23_scan 34 = .ok (.iconst 1, 1) := by decide +kernel
theorem dX23_scan_35 : decode cX23_scan 35 = .ok (.isub, 1) := by decide +kernel
theorem dX23_scan_36 : decode cX23_scan 36 = .ok (.iaload, 1) := by decide +kernel
theorem dX23_scan_37 : decode cX23_scan 37 = .ok (.iconst 1, 1) := by decide +kernel
theorem dX23_scan_38 : decode cX23_scan 38 = .ok (.if_icmp .eq 119, 3) := by decide +kernel
theorem dX23_scan_41 : decode cX23_scan 41 = .ok (.aload_n 0, 1) := by decide +kernel
theorem dX23_scan_42 : decode cX23_scan 42 = .ok (.iload_n 1, 1) := by decide +kernel
theorem dX23_scan_43 : decode cX23_scan 43 = .ok (.invokevirtual 11, 3) := by decide +kernel
theorem dX23_scan_46 : decode cX23_scan 46 = .ok (.istore_n 2, 1) := by decide +kernel
theorem dX23_scan_47 : decode cX23_scan 47 = .ok (.iload_n 2, 1) := by decide +kernel
theorem dX23_scan_48 : decode cX23_scan 48 = .ok (.bipush 39, 2) := by decide +kernel
theorem dX23_scan_50 : decode cX23_scan 50 = .ok (.if_icmp .ne 12, 3) := by decide +kernel
theorem dX23_scan_53 : decode cX23_scan 53 = .ok (.aload_n 0, 1) := by decide +kernel
theorem dX23_scan_54 : decode cX23_scan 54 = .ok (.iload_n 1, 1) := by decide +kernel
theorem dX23_scan_55 : decode cX23_scan 55 = .ok (.invokevirtual 71, 3) := by decide +kernel
theorem dX23_scan_58 : decode cX23_scan 58 = .ok (.istore_n 1, 1) := by decide +kernel
theorem dX23_scan_59 : decode cX23_scan 59 = .ok (.goto 89, 3) := by decide +kernel
theorem dX23_scan_62 : decode cX23_scan 62 = .ok (.iload_n 2, 1) := by decide +kernel
theorem dX23_scan_63 : decode cX23_scan 63 = .ok (.invokestatic 48, 3) := by decide +kernel
theorem dX23_scan_66 : decode cX23_scan 66 = .ok (.ifCond .eq 61, 3) := by decide +kernel
theorem dX23_scan_69 : decode cX23_scan 69 = .ok (.iload_n 1, 1) := by decide +kernel
theorem dX23_scan_70 : decode cX23_scan 70 = .ok (.istore_n 3, 1) := by decide +kernel
theorem dX23_scan_71 : decode cX23_scan 71 = .ok (.aload_n 0, 1) := by decide +kernel
theorem dX23_scan_72 : decode cX23_scan 72 = .ok (.iload_n 1, 1) := by decide +kernel
theorem dX23_scan_73 : decode cX23_scan 73 = .ok (.invokevirtual 11, 3) := by decide +kernel
theorem dX23_scan_76 : decode cX23_scan 76 = .ok (.invokestatic 48, 3) := by decide +kernel
theorem dX23_scan_79 : decode cX23_scan 79 = .ok (.ifCond .ne 14, 3) := by decide +kernel
theorem dX23_scan_82 : decode cX23_scan 82 = .ok (.aload_n 0, 1) := by decide +kernel
theorem dX23_scan_83 : decode cX23_scan 83 = .ok (.iload_n 1, 1) := by decide +kernel
theorem dX23_scan_84 : decode cX23_scan 84 = .ok (.invokevirtual 11, 3) := by decide +kernel
theorem dX23_scan_87 : decode cX23_scan 87 = .ok (.invokestatic 40, 3) := by decide +kernel
theorem dX23_scan_90 : decode cX23_scan 90 = .ok (.ifCond .eq 9, 3) := by decide +kernel
theorem dX23_scan_93 : decode cX23_scan 93 = .ok (.iinc 1 1, 3) := by decide +kernel
theorem dX23_scan_96 : decode cX23_scan 96 = .ok (.goto (-25), 3) := by decide +kernel
theorem dX23_scan_99 : decode cX23_scan 99 = .ok (.aload_n 0, 1) := by decide +kernel
theorem dX23_scan_100 : decode cX23_scan 100 = .ok (.iload_n 1, 1) := by decide +kernel
theorem dX23_scan_101 : decode cX23_scan 101 = .ok (.iload_n 3, 1) := by decide +kernel
theorem dX23_scan_102 : decode cX23_scan 102 = .ok (.isub, 1) := by decide +kernel
theorem dX23_scan_103 : decode cX23_scan 103 = .ok (.bipush 20, 2) := by decide +kernel
theorem dX23_scan_105 : decode cX23_scan 105 = .ok (.if_icmp .le 7, 3) := by decide +kernel
theorem dX23_scan_108 : decode cX23_scan 108 = .ok (.iconst 1, 1) := by decide +kernel
theorem dX23_scan_109 : decode cX23_scan 109 = .ok (.goto 9, 3) := by decide +kernel
theorem dX23_scan_112 : decode cX23_scan 112 = .ok (.aload_n 0, 1) := by decide +kernel
theorem dX23_scan_113 : decode cX23_scan 113 = .ok (.iload_n 3, 1) := by decide +kernel
theorem dX23_scan_114 : decode cX23_scan 114 = .ok (.iload_n 1, 1) := by decide +kernel
theorem dX23_scan_115 : decode cX23_scan 115 = .ok (.invokevirtual 64, 3) := by decide +kernel
theorem dX23_scan_118 : decode cX23_scan 118 = .ok (.iload_n 3, 1) := by decide +kernel
theorem dX23_scan_119 : decode cX23_scan 119 = .ok (.iload_n 1, 1) := by decide +kernel
theorem dX23_scan_120 : decode cX23_scan 120 = .ok (.lconst 0, 1) := by decide +kernel
theorem dX23_scan_121 : decode cX23_scan 121 = .ok (.invokevirtual 51, 3) := by decide +kernel
theorem dX23_scan_124 : decode cX23_scan 124 = .ok (.goto 24, 3) := by decide +kernel
theorem dX23_scan_127 : decode cX23_scan 127 = .ok (.iload_n 2, 1) := by decide +kernel
theorem dX23_scan_128 : decode cX23_scan 128 = .ok (.invokestatic 40, 3) := by decide +kernel
theorem dX23_scan_131 : decode cX23_scan 131 = .ok (.ifCond .eq 11, 3) := by decide +kernel
theorem dX23_scan_134 : decode cX23_scan 134 = .ok (.aload_n 0, 1) := by decide +kernel
theorem dX23_scan_135 : decode cX23_scan 135 = .ok (.iload_n 1, 1) := by decide +kernel
theorem dX23_scan_136 : decode cX23_scan 136 = .ok (.invokevirtual 74, 3) := by decide +kernel
theorem dX23_scan_139 : decode cX23_scan 139 = .ok (.goto 8, 3) := by decide +kernel
theorem dX23_scan_142 : decode cX23_scan 142 = .ok (.aload_n 0, 1) := by decide +kernel
theorem dX23_scan_143 : decode cX23_scan 143 = .ok (.iload_n 1, 1) := by decide +kernel
theorem dX23_scan_144 : decode cX23_scan 144 = .ok (.invokevirtual 77, 3) := by decide +kernel
theorem dX23_scan_147 : decode cX23_scan 147 = .ok (.istore_n 1, 1) := by decide +kernel
theorem dX23_scan_148 : decode cX23_scan 148 = .ok (.aload_n 0, 1) := by decide +kernel
theorem dX23_scan_149 : decode cX23_scan 149 = .ok (.iload_n 1, 1) := by decide +kernel
theorem dX23_scan_150 : decode cX23_scan 150 = .ok (.invokevirtual 68, 3) := by decide +kernel
theorem dX23_scan_153 : decode cX23_scan 153 = .ok (.istore_n 1, 1) := by decide +kernel
theorem dX23_scan_154 : decode cX23_scan 154 = .ok (.goto (-143), 3) := by decide +kernel
theorem dX23_scan_157 : decode cX23_scan 157 = .ok (.aload_n 0, 1) := by decide +kernel
theorem dX23_scan_158 : decode cX23_scan 158 = .ok (.iconst 0, 1) := by decide +kernel
theorem dX23_scan_159 : decode cX23_scan 159 = .ok (.aload_n 0, 1) := by decide +kernel
theorem dX23_scan_160 : decode cX23_scan 160 = .ok (.getfield 1, 3) := by decide +kernel
theorem dX23_scan_163 : decode cX23_scan 163 = .ok (.aload_n 0, 1) := by decide +kernel
theorem dX23_scan_164 : decode cX23_scan 164 = .ok (.getfield 1, 3) := by decide +kernel
theorem dX23_scan_167 : decode cX23_scan 167 = .ok (.lconst 0, 1) := by decide +kernel
theorem dX23_scan_168 : decode cX23_scan 168 = .ok (.invokevirtual 51, 3) := by decide +kernel
theorem dX23_scan_171 : decode cX23_scan 171 = .ok (.return_, 1) := by decide +kernel
theorem dX23_behindBlanks_0 : decode cX23_behindBlanks 0 = .ok (.iload_n 1, 1) := by decide +kernel
theorem dX23_behindBlanks_1 : decode cX23_behindBlanks 1 = .ok (.istore_n 2, 1) := by decide +kernel
theorem dX23_behindBlanks_2 : decode cX23_behindBlanks 2 = .ok (.iconst 1, 1) := by decide +kernel
theorem dX23_behindBlanks_3 : decode cX23_behindBlanks 3 = .ok (.istore_n 3, 1) := by decide +kernel
theorem dX23_behindBlanks_4 : decode cX23_behindBlanks 4 = .ok (.iload_n 3, 1) := by decide +kernel
theorem dX23_behindBlanks_5 : decode cX23_behindBlanks 5 = .ok (.ifCond .eq 142, 3) := by decide +kernel
theorem dX23_behindBlanks_8 : decode cX23_behindBlanks 8 = .ok (.iconst 0, 1) := by decide +kernel
theorem dX23_behindBlanks_9 : decode cX23_behindBlanks 9 = .ok (.istore_n 3, 1) := by decide +kernel
theorem dX23_behindBlanks_10 : decode cX23_behindBlanks 10 = .ok (.aload_n 0, 1) := by decide +kernel
theorem dX23_behindBlanks_11 : decode cX23_behindBlanks 11 = .ok (.iload_n 2, 1) := by decide +kernel
theorem dX23_behindBlanks_12 : decode cX23_behindBlanks 12 = .ok (.invokevirtual 11, 3) := by decide +kernel
theorem dX23_behindBlanks_15 : decode cX23_behindBlanks 15 = .ok (.bipush 9, 2) := by decide +kernel
theorem dX23_behindBlanks_17 : decode cX23_behindBlanks 17 = .ok (.if_icmp .eq 33, 3) := by decide +kernel
theorem dX23_behindBlanks_20 : decode cX23_behindBlanks 20 = .ok (.aload_n 0, 1) := by decide +kernel
theorem dX23_behindBlanks_21 : decode cX23_behindBlanks 21 = .ok (.iload_n 2, 1) := by decide +kernel
theorem dX23_behindBlanks_22 : decode cX23_behindBlanks 22 = .ok (.invokevirtual 11, 3) := by decide +kernel
theorem dX23_behindBlanks_25 : decode cX23_behindBlanks 25 = .ok (.bipush 10, 2) := by decide +kernel
theorem dX23_behindBlanks_27 : decode cX23_behindBlanks 27 = .ok (.if_icmp .eq 23, 3) := by decide +kernel
theorem dX23_behindBlanks_30 : decode cX23_behindBlanks 30 = .ok (.aload_n 0, 1) := by decide +kernel
theorem dX23_behindBlanks_31 : decode cX23_behindBlanks 31 = .ok (.iload_n 2, 1) := by decide +kernel
theorem dX23_behindBlanks_32 : decode cX23_behindBlanks 32 = .ok (.invokevirtual 11, 3) := by decide +kernel
theorem dX23_behindBlanks_35 : decode cX23_behindBlanks 35 = .ok (.bipush 13, 2) := by decide +kernel
theorem dX23_behindBlanks_37 : decode cX23_behindBlanks 37 = .ok (.if_icmp .eq 13, 3) := by decide +kernel
theorem dX23_behindBlanks_40 : decode cX23_behindBlanks 40 = .ok (.aload_n 0, 1) := by decide +kernel
theorem dX23_behindBlanks_41 : decode cX23_behindBlanks 41 = .ok (.iload_n 2, 1) := by decide +kernel
theorem dX23_behindBlanks_42 : decode cX23_behindBlanks 42 = .ok (.invokevirtual 11, 3) := by decide +kernel
theorem dX23_behindBlanks_45 : decode cX23_behindBlanks 45 = .ok (.bipush 32, 2) := by decide +kernel
theorem dX23_behindBlanks_47 : decode cX23_behindBlanks 47 = .ok (.if_icmp .ne 9, 3) := by decide +kernel
theorem dX23_behindBlanks_50 : decode cX23_behindBlanks 50 = .ok (.iinc 2 1, 3) := by decide +kernel
theorem dX23_behindBlanks_53 : decode cX23_behindBlanks 53 = .ok (.goto (-43), 3) := by decide +kernel
theorem dX23_behindBlanks_56 : decode cX23_behindBlanks 56 = .ok (.aload_n 0, 1) := by decide +kernel
theorem dX23_behindBlanks_57 : decode cX23_behindBlanks 57 = .ok (.iload_n 2, 1) := by decide +kernel
theorem dX23_behindBlanks_58 : decode cX23_behindBlanks 58 = .ok (.invokevirtual 11, 3) := by decide +kernel
theorem dX23_behindBlanks_61 : decode cX23_behindBlanks 61 = .ok (.bipush 47, 2) := by decide +kernel
theorem dX23_behindBlanks_63 : decode cX23_behindBlanks 63 = .ok (.if_icmp .ne (-59), 3) := by decide +kernel
theorem dX23_behindBlanks_66 : decode cX23_behindBlanks 66 = .ok (.aload_n 0, 1) := by decide +kernel
theorem dX23_behindBlanks_67 : decode cX23_behindBlanks 67 = .ok (.iload_n 2, 1) := by decide +kernel
theorem dX23_behindBlanks_68 : decode cX23_behindBlanks 68 = .ok (.iconst 1, 1) := by decide +kernel
theorem dX23_behindBlanks_69 : decode cX23_behindBlanks 69 = .ok (.iadd, 1) := by decide +kernel
theorem dX23_behindBlanks_70 : decode cX23_behindBlanks 70 = .ok (.invokevirtual 11, 3) := by decide +kernel
theorem dX23_behindBlanks_73 : decode cX23_behindBlanks 73 = .ok (.bipush 47, 2) := by decide +kernel
theorem dX23_behindBlanks_75 : decode cX23_behindBlanks 75 = .ok (.if_icmp .ne (-71), 3) := by decide +kernel
theorem dX23_behindBlanks_78 : decode cX23_behindBlanks 78 = .ok (.iload_n 2, 1) := by decide +kernel
theorem dX23_behindBlanks_79 : decode cX23_behindBlanks 79 = .ok (.aload_n 0, 1) := by decide +kernel
theorem dX23_behindBlanks_80 : decode cX23_behindBlanks 80 = .ok (.getfield 1, 3) := by decide +kernel
theorem dX23_behindBlanks_83 : decode cX23_behindBlanks 83 = .ok (.if_icmp .ge 59, 3) := by decide +kernel
theorem dX23_behindBlanks_86 : decode cX23_behindBlanks 86 = .ok (.aload_n 0, 1) := by decide +kernel
theorem dX23_behindBlanks_87 : decode cX23_behindBlanks 87 = .ok (.iload_n 2, 1) := by decide +kernel
theorem dX23_behindBlanks_88 : decode cX23_behindBlanks 88 = .ok (.invokevirtual 11, 3) := by decide +kernel
theorem dX23_behindBlanks_91 : decode cX23_behindBlanks 91 = .ok (.bipush 10, 2) := by decide +kernel
theorem dX23_behindBlanks_93 : decode cX23_behindBlanks 93 = .ok (.if_icmp .eq 49, 3) := by decide +kernel
theorem dX23_behindBlanks_96 : decode cX23_behindBlanks 96 = .ok (.aload_n 0, 1) := by decide +kernel
theorem dX23_behindBlanks_97 : decode cX23_behindBlanks 97 = .ok (.iload_n 2, 1) := by decide +kernel
theorem dX23_behindBlanks_98 : decode cX23_behindBlanks 98 = .ok (.invokevirtual 11, 3) := by decide +kernel
theorem dX23_behindBlanks_101 : decode cX23_behindBlanks 101 = .ok (.bipush 9, 2) := by decide +kernel
theorem dX23_behindBlanks_103 : decode cX23_behindBlanks 103 = .ok (.if_icmp .eq 33, 3) := by decide +kernel
theorem dX23_behindBlanks_106 : decode cX23_behindBlanks 106 = .ok (.aload_n 0, 1) := by decide +kernel
theorem dX23_behindBlanks_107 : decode cX23_behindBlanks 107 = .ok (.iload_n 2, 1) := by decide +kernel
theorem dX23_behindBlanks_108 : decode cX23_behindBlanks 108 = .ok (.invokevirtual 11, 3) := by decide +kernel
theorem dX23_behindBlanks_111 : decode cX23_behindBlanks 111 = .ok (.bipush 13, 2) := by decide +kernel
theorem dX23_behindBlanks_113 : decode cX23_behindBlanks 113 = .ok (.if_icmp .eq 23, 3) := by decide +kernel
theorem dX23_behindBlanks_116 : decode cX23_behindBlanks 116 = .ok (.aload_n 0, 1) := by decide +kernel
theorem dX23_behindBlanks_117 : decode cX23_behindBlanks 117 = .ok (.iload_n 2, 1) := by decide +kernel
theorem dX23_behindBlanks_118 : decode cX23_behindBlanks 118 = .ok (.invokevirtual 11, 3) := by decide +kernel
theorem dX23_behindBlanks_121 : decode cX23_behindBlanks 121 = .ok (.bipush 32, 2) := by decide +kernel
theorem dX23_behindBlanks_123 : decode cX23_behindBlanks 123 = .ok (.if_icmp .lt 19, 3) := by decide +kernel
theorem dX23_behindBlanks_126 : decode cX23_behindBlanks 126 = .ok (.aload_n 0, 1) := by decide +kernel
theorem dX23_behindBlanks_127 : decode cX23_behindBlanks 127 = .ok (.iload_n 2, 1) := by decide +kernel
theorem dX23_behindBlanks_128 : decode cX23_behindBlanks 128 = .ok (.invokevirtual 11, 3) := by decide +kernel
theorem dX23_behindBlanks_131 : decode cX23_behindBlanks 131 = .ok (.bipush 126, 2) := by decide +kernel
theorem dX23_behindBlanks_133 : decode cX23_behindBlanks 133 = .ok (.if_icmp .gt 9, 3) := by decide +kernel
theorem dX23_behindBlanks_136 : decode cX23_behindBlanks 136 = .ok (.iinc 2 1, 3) := by decide +kernel
theorem dX23_behindBlanks_139 : decode cX23_behindBlanks 139 = .ok (.goto (-61), 3) := by decide +kernel
theorem dX23_behindBlanks_142 : decode cX23_behindBlanks 142 = .ok (.iconst 1, 1) := by decide +kernel
theorem dX23_behindBlanks_143 : decode cX23_behindBlanks 143 = .ok (.istore_n 3, 1) := by decide +kernel
theorem dX23_behindBlanks_144 : decode cX23_behindBlanks 144 = .ok (.goto (-140), 3) := by decide +kernel
theorem dX23_behindBlanks_147 : decode cX23_behindBlanks 147 = .ok (.iload_n 2, 1) := by decide +kernel
theorem dX23_behindBlanks_148 : decode cX23_behindBlanks 148 = .ok (.ireturn, 1) := by decide +kernel
theorem dX23_at_0 : decode cX23_at 0 = .ok (.iload_n 1, 1) := by decide +kernel
theorem dX23_at_1 : decode cX23_at 1 = .ok (.aload_n 0, 1) := by decide +kernel
theorem dX23_at_2 : decode cX23_at 2 = .ok (.getfield 1, 3) := by decide +kernel
theorem dX23_at_5 : decode cX23_at 5 = .ok (.if_icmp .ge 12, 3) := by decide +kernel
theorem dX23_at_8 : decode cX23_at 8 = .ok (.aload_n 0, 1) := by decide +kernel
theorem dX23_at_9 : decode cX23_at 9 = .ok (.getfield 7, 3) := by decide +kernel
theorem dX23_at_12 : decode cX23_at 12 = .ok (.iload_n 1, 1) := by decide +kernel
theorem dX23_at_13 : decode cX23_at 13 = .ok (.iaload, 1) := by decide +kernel
theorem dX23_at_14 : decode cX23_at 14 = .ok (.goto 4, 3) := by decide +kernel
theorem dX23_at_17 : decode cX23_at 17 = .ok (.iconst (-1), 1) := by decide +kernel
theorem dX23_at_18 : decode cX23_at 18 = .ok (.ireturn, 1) := by decide +kernel
theorem dX23_addToken_0 : decode cX23_addToken 0 = .ok (.aload_n 0, 1) := by decide +kernel
theorem dX23_addToken_1 : decode cX23_addToken 1 = .ok (.getfield 25, 3) := by decide +kernel
theorem dX23_addToken_4 : decode cX23_addToken 4 = .ok (.aload_n 0, 1) := by decide +kernel
theorem dX23_addToken_5 : decode cX23_addToken 5 = .ok (.getfield 28, 3) := by decide +kernel
theorem dX23_addToken_8 : decode cX23_addToken 8 = .ok (.iload_n 1, 1) := by decide +kernel
theorem dX23_addToken_9 : decode cX23_addToken 9 = .ok (.iastore, 1) := by decide +kernel
theorem dX23_addToken_10 : decode cX23_addToken 10 = .ok (.aload_n 0, 1) := by decide +kernel
theorem dX23_addToken_11 : decode cX23_addToken 11 = .ok (.getfield 31, 3) := by decide +kernel
theorem dX23_addToken_14 : decode cX23_addToken 14 = .ok (.aload_n 0, 1) := by decide +kernel
end
section
theorem dX23_addToken_15 : decode cX23_addToken 15 = .ok (.getfield 28, 3) := by decide +kernel
theorem dX23_addToken_18 : decode cX23_addToken 18 = .ok (.iload_n 2, 1) := by decide +kernel
theorem dX23_addToken_19 : decode cX23_addToken 19 = .ok (.iastore, 1) := by decide +kernel
theorem dX23_addToken_20 : decode cX23_addToken 20 = .ok (.aload_n 0, 1) := by decide +kernel
theorem dX23_addToken_21 : decode cX23_addToken 21 = .ok (.getfield 34, 3) := by decide +kernel
theorem dX23_addToken_24 : decode cX23_addToken 24 = .ok (.aload_n 0, 1) := by decide +kernel
theorem dX23_addToken_25 : decode cX23_addToken 25 = .ok (.getfield 28, 3) := by decide +kernel
theorem dX23_addToken_28 : decode cX23_addToken 28 = .ok (.iload_n 3, 1) := by decide +kernel
theorem dX23_addToken_29 : decode cX23_addToken 29 = .ok (.iastore, 1) := by decide +kernel
theorem dX23_addToken_30 : decode cX23_addToken 30 = .ok (.aload_n 0, 1) := by decide +kernel
theorem dX23_addToken_31 : decode cX23_addToken 31 = .ok (.getfield 37, 3) := by decide +kernel
theorem dX23_addToken_34 : decode cX23_addToken 34 = .ok (.aload_n 0, 1) := by decide +kernel
theorem dX23_addToken_35 : decode cX23_addToken 35 = .ok (.getfield 28, 3) := by decide +kernel
theorem dX23_addToken_38 : decode cX23_addToken 38 = .ok (.lload 4, 2) := by decide +kernel
theorem dX23_addToken_40 : decode cX23_addToken 40 = .ok (.lastore, 1) := by decide +kernel
theorem dX23_addToken_41 : decode cX23_addToken 41 = .ok (.aload_n 0, 1) := by decide +kernel
theorem dX23_addToken_42 : decode cX23_addToken 42 = .ok (.dup, 1) := by decide +kernel
theorem dX23_addToken_43 : decode cX23_addToken 43 = .ok (.getfield 28, 3) := by decide +kernel
theorem dX23_addToken_46 : decode cX23_addToken 46 = .ok (.iconst 1, 1) := by decide +kernel
theorem dX23_addToken_47 : decode cX23_addToken 47 = .ok (.iadd, 1) := by decide +kernel
theorem dX23_addToken_48 : decode cX23_addToken 48 = .ok (.putfield 28, 3) := by decide +kernel
theorem dX23_addToken_51 : decode cX23_addToken 51 = .ok (.return_, 1) := by decide +kernel
theorem dX23_program_0 : decode cX23_program 0 = .ok (.aload_n 0, 1) := by decide +kernel
theorem dX23_program_1 : decode cX23_program 1 = .ok (.iconst 0, 1) := by decide +kernel
theorem dX23_program_2 : decode cX23_program 2 = .ok (.putfield 221, 3) := by decide +kernel
theorem dX23_program_5 : decode cX23_program 5 = .ok (.aload_n 0, 1) := by decide +kernel
theorem dX23_program_6 : decode cX23_program 6 = .ok (.iconst 0, 1) := by decide +kernel
theorem dX23_program_7 : decode cX23_program 7 = .ok (.putfield 171, 3) := by decide +kernel
theorem dX23_program_10 : decode cX23_program 10 = .ok (.aload_n 0, 1) := by decide +kernel
theorem dX23_program_11 : decode cX23_program 11 = .ok (.iconst 0, 1) := by decide +kernel
theorem dX23_program_12 : decode cX23_program 12 = .ok (.putfield 189, 3) := by decide +kernel
theorem dX23_program_15 : decode cX23_program 15 = .ok (.aload_n 0, 1) := by decide +kernel
theorem dX23_program_16 : decode cX23_program 16 = .ok (.iconst 0, 1) := by decide +kernel
theorem dX23_program_17 : decode cX23_program 17 = .ok (.putfield 86, 3) := by decide +kernel
theorem dX23_program_20 : decode cX23_program 20 = .ok (.aload_n 0, 1) := by decide +kernel
theorem dX23_program_21 : decode cX23_program 21 = .ok (.iconst 0, 1) := by decide +kernel
theorem dX23_program_22 : decode cX23_program 22 = .ok (.putfield 104, 3) := by decide +kernel
theorem dX23_program_25 : decode cX23_program 25 = .ok (.aload_n 0, 1) := by decide +kernel
theorem dX23_program_26 : decode cX23_program 26 = .ok (.invokevirtual 89, 3) := by decide +kernel
theorem dX23_program_29 : decode cX23_program 29 = .ok (.ifCond .eq 130, 3) := by decide +kernel
theorem dX23_program_32 : decode cX23_program 32 = .ok (.aload_n 0, 1) := by decide +kernel
theorem dX23_program_33 : decode cX23_program 33 = .ok (.iconst 0, 1) := by decide +kernel
theorem dX23_program_34 : decode cX23_program 34 = .ok (.invokevirtual 93, 3) := by decide +kernel
theorem dX23_program_37 : decode cX23_program 37 = .ok (.ifCond .ne 122, 3) := by decide +kernel
theorem dX23_program_40 : decode cX23_program 40 = .ok (.aload_n 0, 1) := by decide +kernel
theorem dX23_program_41 : decode cX23_program 41 = .ok (.bipush 10, 2) := by decide +kernel
theorem dX23_program_43 : decode cX23_program 43 = .ok (.invokevirtual 93, 3) := by decide +kernel
theorem dX23_program_46 : decode cX23_program 46 = .ok (.ifCond .ne 31, 3) := by decide +kernel
theorem dX23_program_49 : decode cX23_program 49 = .ok (.aload_n 0, 1) := by decide +kernel
theorem dX23_program_50 : decode cX23_program 50 = .ok (.bipush 11, 2) := by decide +kernel
theorem dX23_program_52 : decode cX23_program 52 = .ok (.invokevirtual 93, 3) := by decide +kernel
theorem dX23_program_55 : decode cX23_program 55 = .ok (.ifCond .ne 22, 3) := by decide +kernel
theorem dX23_program_58 : decode cX23_program 58 = .ok (.aload_n 0, 1) := by decide +kernel
theorem dX23_program_59 : decode cX23_program 59 = .ok (.bipush 12, 2) := by decide +kernel
theorem dX23_program_61 : decode cX23_program 61 = .ok (.invokevirtual 93, 3) := by decide +kernel
theorem dX23_program_64 : decode cX23_program 64 = .ok (.ifCond .ne 13, 3) := by decide +kernel
theorem dX23_program_67 : decode cX23_program 67 = .ok (.aload_n 0, 1) := by decide +kernel
theorem dX23_program_68 : decode cX23_program 68 = .ok (.iconst 1, 1) := by decide +kernel
theorem dX23_program_69 : decode cX23_program 69 = .ok (.aload_n 0, 1) := by decide +kernel
theorem dX23_program_70 : decode cX23_program 70 = .ok (.getfield 86, 3) := by decide +kernel
theorem dX23_program_73 : decode cX23_program 73 = .ok (.invokevirtual 96, 3) := by decide +kernel
theorem dX23_program_76 : decode cX23_program 76 = .ok (.return_, 1) := by decide +kernel
theorem dX23_program_77 : decode cX23_program 77 = .ok (.new 140, 3) := by decide +kernel
theorem dX23_program_80 : decode cX23_program 80 = .ok (.dup, 1) := by decide +kernel
theorem dX23_program_81 : decode cX23_program 81 = .ok (.invokespecial 224, 3) := by decide +kernel
theorem dX23_program_84 : decode cX23_program 84 = .ok (.astore_n 1, 1) := by decide +kernel
theorem dX23_program_85 : decode cX23_program 85 = .ok (.aload_n 1, 1) := by decide +kernel
theorem dX23_program_86 : decode cX23_program 86 = .ok (.aload_n 0, 1) := by decide +kernel
theorem dX23_program_87 : decode cX23_program 87 = .ok (.getfield 86, 3) := by decide +kernel
theorem dX23_program_90 : decode cX23_program 90 = .ok (.putfield 225, 3) := by decide +kernel
theorem dX23_program_93 : decode cX23_program 93 = .ok (.aload_n 1, 1) := by decide +kernel
theorem dX23_program_94 : decode cX23_program 94 = .ok (.aload_n 0, 1) := by decide +kernel
theorem dX23_program_95 : decode cX23_program 95 = .ok (.getfield 25, 3) := by decide +kernel
theorem dX23_program_98 : decode cX23_program 98 = .ok (.aload_n 0, 1) := by decide +kernel
theorem dX23_program_99 : decode cX23_program 99 = .ok (.getfield 86, 3) := by decide +kernel
theorem dX23_program_102 : decode cX23_program 102 = .ok (.iaload, 1) := by decide +kernel
theorem dX23_program_103 : decode cX23_program 103 = .ok (.putfield 174, 3) := by decide +kernel
theorem dX23_program_106 : decode cX23_program 106 = .ok (.aload_n 1, 1) := by decide +kernel
theorem dX23_program_107 : decode cX23_program 107 = .ok (.getfield 174, 3) := by decide +kernel
theorem dX23_program_110 : decode cX23_program 110 = .ok (.bipush 12, 2) := by decide +kernel
theorem dX23_program_112 : decode cX23_program 112 = .ok (.if_icmp .ne 11, 3) := by decide +kernel
theorem dX23_program_115 : decode cX23_program 115 = .ok (.aload_n 0, 1) := by decide +kernel
theorem dX23_program_116 : decode cX23_program 116 = .ok (.aload_n 1, 1) := by decide +kernel
theorem dX23_program_117 : decode cX23_program 117 = .ok (.invokevirtual 226, 3) := by decide +kernel
theorem dX23_program_120 : decode cX23_program 120 = .ok (.goto 8, 3) := by decide +kernel
theorem dX23_program_123 : decode cX23_program 123 = .ok (.aload_n 0, 1) := by decide +kernel
theorem dX23_program_124 : decode cX23_program 124 = .ok (.aload_n 1, 1) := by decide +kernel
theorem dX23_program_125 : decode cX23_program 125 = .ok (.invokevirtual 229, 3) := by decide +kernel
theorem dX23_program_128 : decode cX23_program 128 = .ok (.aload_n 0, 1) := by decide +kernel
theorem dX23_program_129 : decode cX23_program 129 = .ok (.invokevirtual 89, 3) := by decide +kernel
theorem dX23_program_132 : decode cX23_program 132 = .ok (.ifCond .ne 4, 3) := by decide +kernel
theorem dX23_program_135 : decode cX23_program 135 = .ok (.return_, 1) := by decide +kernel
theorem dX23_program_136 : decode cX23_program 136 = .ok (.aload_n 0, 1) := by decide +kernel
theorem dX23_program_137 : decode cX23_program 137 = .ok (.getfield 232, 3) := by decide +kernel
theorem dX23_program_140 : decode cX23_program 140 = .ok (.aload_n 0, 1) := by decide +kernel
theorem dX23_program_141 : decode cX23_program 141 = .ok (.getfield 221, 3) := by decide +kernel
theorem dX23_program_144 : decode cX23_program 144 = .ok (.aload_n 1, 1) := by decide +kernel
theorem dX23_program_145 : decode cX23_program 145 = .ok (.aastore, 1) := by decide +kernel
theorem dX23_program_146 : decode cX23_program 146 = .ok (.aload_n 0, 1) := by decide +kernel
theorem dX23_program_147 : decode cX23_program 147 = .ok (.dup, 1) := by decide +kernel
theorem dX23_program_148 : decode cX23_program 148 = .ok (.getfield 221, 3) := by decide +kernel
theorem dX23_program_151 : decode cX23_program 151 = .ok (.iconst 1, 1) := by decide +kernel
theorem dX23_program_152 : decode cX23_program 152 = .ok (.iadd, 1) := by decide +kernel
theorem dX23_program_153 : decode cX23_program 153 = .ok (.putfield 221, 3) := by decide +kernel
theorem dX23_program_156 : decode cX23_program 156 = .ok (.goto (-131), 3) := by decide +kernel
theorem dX23_program_159 : decode cX23_program 159 = .ok (.return_, 1) := by decide +kernel
theorem dX23_ok_0 : decode cX23_ok 0 = .ok (.aload_n 0, 1) := by decide +kernel
theorem dX23_ok_1 : decode cX23_ok 1 = .ok (.getfield 80, 3) := by decide +kernel
theorem dX23_ok_4 : decode cX23_ok 4 = .ok (.ifCond .ne 7, 3) := by decide +kernel
theorem dX23_ok_7 : decode cX23_ok 7 = .ok (.iconst 1, 1) := by decide +kernel
theorem dX23_ok_8 : decode cX23_ok 8 = .ok (.goto 4, 3) := by decide +kernel
theorem dX23_ok_11 : decode cX23_ok 11 = .ok (.iconst 0, 1) := by decide +kernel
theorem dX23_ok_12 : decode cX23_ok 12 = .ok (.ireturn, 1) := by decide +kernel
theorem dX23_is_0 : decode cX23_is 0 = .ok (.aload_n 0, 1) := by decide +kernel
theorem dX23_is_1 : decode cX23_is 1 = .ok (.getfield 25, 3) := by decide +kernel
theorem dX23_is_4 : decode cX23_is 4 = .ok (.aload_n 0, 1) := by decide +kernel
theorem dX23_is_5 : decode cX23_is 5 = .ok (.getfield 86, 3) := by decide +kernel
theorem dX23_is_8 : decode cX23_is 8 = .ok (.iaload, 1) := by decide +kernel
theorem dX23_is_9 : decode cX23_is 9 = .ok (.iload_n 1, 1) := by decide +kernel
theorem dX23_is_10 : decode cX23_is 10 = .ok (.if_icmp .ne 7, 3) := by decide +kernel
theorem dX23_is_13 : decode cX23_is 13 = .ok (.iconst 1, 1) := by decide +kernel
theorem dX23_is_14 : decode cX23_is 14 = .ok (.goto 4, 3) := by decide +kernel
theorem dX23_is_17 : decode cX23_is 17 = .ok (.iconst 0, 1) := by decide +kernel
theorem dX23_is_18 : decode cX23_is 18 = .ok (.ireturn, 1) := by decide +kernel
theorem dX23_fail_0 : decode cX23_fail 0 = .ok (.aload_n 0, 1) := by decide +kernel
theorem dX23_fail_1 : decode cX23_fail 1 = .ok (.getfield 80, 3) := by decide +kernel
theorem dX23_fail_4 : decode cX23_fail 4 = .ok (.ifCond .eq 4, 3) := by decide +kernel
theorem dX23_fail_7 : decode cX23_fail 7 = .ok (.return_, 1) := by decide +kernel
theorem dX23_fail_8 : decode cX23_fail 8 = .ok (.aload_n 0, 1) := by decide +kernel
theorem dX23_fail_9 : decode cX23_fail 9 = .ok (.iload_n 1, 1) := by decide +kernel
theorem dX23_fail_10 : decode cX23_fail 10 = .ok (.putfield 80, 3) := by decide +kernel
theorem dX23_fail_13 : decode cX23_fail 13 = .ok (.aload_n 0, 1) := by decide +kernel
theorem dX23_fail_14 : decode cX23_fail 14 = .ok (.aload_n 0, 1) := by decide +kernel
theorem dX23_fail_15 : decode cX23_fail 15 = .ok (.getfield 31, 3) := by decide +kernel
theorem dX23_fail_18 : decode cX23_fail 18 = .ok (.iload_n 2, 1) := by decide +kernel
theorem dX23_fail_19 : decode cX23_fail 19 = .ok (.iaload, 1) := by decide +kernel
theorem dX23_fail_20 : decode cX23_fail 20 = .ok (.putfield 83, 3) := by decide +kernel
theorem dX23_fail_23 : decode cX23_fail 23 = .ok (.return_, 1) := by decide +kernel
theorem dX23_typeAll_0 : decode cX23_typeAll 0 = .ok (.aload_n 0, 1) := by decide +kernel
theorem dX23_typeAll_1 : decode cX23_typeAll 1 = .ok (.iconst 0, 1) := by decide +kernel
theorem dX23_typeAll_2 : decode cX23_typeAll 2 = .ok (.putfield 382, 3) := by decide +kernel
theorem dX23_typeAll_5 : decode cX23_typeAll 5 = .ok (.aload_n 0, 1) := by decide +kernel
theorem dX23_typeAll_6 : decode cX23_typeAll 6 = .ok (.invokevirtual 605, 3) := by decide +kernel
theorem dX23_typeAll_9 : decode cX23_typeAll 9 = .ok (.iconst 0, 1) := by decide +kernel
theorem dX23_typeAll_10 : decode cX23_typeAll 10 = .ok (.istore_n 1, 1) := by decide +kernel
theorem dX23_typeAll_11 : decode cX23_typeAll 11 = .ok (.iload_n 1, 1) := by decide +kernel
theorem dX23_typeAll_12 : decode cX23_typeAll 12 = .ok (.aload_n 0, 1) := by decide +kernel
theorem dX23_typeAll_13 : decode cX23_typeAll 13 = .ok (.getfield 221, 3) := by decide +kernel
theorem dX23_typeAll_16 : decode cX23_typeAll 16 = .ok (.if_icmp .ge 26, 3) := by decide +kernel
theorem dX23_typeAll_19 : decode cX23_typeAll 19 = .ok (.aload_n 0, 1) := by decide +kernel
theorem dX23_typeAll_20 : decode cX23_typeAll 20 = .ok (.invokevirtual 89, 3) := by decide +kernel
theorem dX23_typeAll_23 : decode cX23_typeAll 23 = .ok (.ifCond .eq 19, 3) := by decide +kernel
theorem dX23_typeAll_26 : decode cX23_typeAll 26 = .ok (.aload_n 0, 1) := by decide +kernel
theorem dX23_typeAll_27 : decode cX23_typeAll 27 = .ok (.aload_n 0, 1) := by decide +kernel
theorem dX23_typeAll_28 : decode cX23_typeAll 28 = .ok (.getfield 232, 3) := by decide +kernel
theorem dX23_typeAll_31 : decode cX23_typeAll 31 = .ok (.iload_n 1, 1) := by decide +kernel
theorem dX23_typeAll_32 : decode cX23_typeAll 32 = .ok (.aaload, 1) := by decide +kernel
theorem dX23_typeAll_33 : decode cX23_typeAll 33 = .ok (.invokevirtual 608, 3) := by decide +kernel
theorem dX23_typeAll_36 : decode cX23_typeAll 36 = .ok (.iinc 1 1, 3) := by decide +kernel
theorem dX23_typeAll_39 : decode cX23_typeAll 39 = .ok (.goto (-28), 3) := by decide +kernel
theorem dX23_typeAll_42 : decode cX23_typeAll 42 = .ok (.aload_n 0, 1) := by decide +kernel
theorem dX23_typeAll_43 : decode cX23_typeAll 43 = .ok (.invokevirtual 89, 3) := by decide +kernel
theorem dX23_typeAll_46 : decode cX23_typeAll 46 = .ok (.ifCond .eq 7, 3) := by decide +kernel
theorem dX23_typeAll_49 : decode cX23_typeAll 49 = .ok (.aload_n 0, 1) := by decide +kernel
theorem dX23_typeAll_50 : decode cX23_typeAll 50 = .ok (.invokevirtual 611, 3) := by decide +kernel
theorem dX23_typeAll_53 : decode cX23_typeAll 53 = .ok (.aload_n 0, 1) := by decide +kernel
theorem dX23_typeAll_54 : decode cX23_typeAll 54 = .ok (.invokevirtual 89, 3) := by decide +kernel
theorem dX23_typeAll_57 : decode cX23_typeAll 57 = .ok (.ifCond .eq 7, 3) := by decide +kernel
theorem dX23_typeAll_60 : decode cX23_typeAll 60 = .ok (.aload_n 0, 1) := by decide +kernel
theorem dX23_typeAll_61 : decode cX23_typeAll 61 = .ok (.invokevirtual 614, 3) := by decide +kernel
theorem dX23_typeAll_64 : decode cX23_typeAll 64 = .ok (.aload_n 0, 1) := by decide +kernel
theorem dX23_typeAll_65 : decode cX23_typeAll 65 = .ok (.invokevirtual 89, 3) := by decide +kernel
theorem dX23_typeAll_68 : decode cX23_typeAll 68 = .ok (.ifCond .eq 7, 3) := by decide +kernel
theorem dX23_typeAll_71 : decode cX23_typeAll 71 = .ok (.aload_n 0, 1) := by decide +kernel
theorem dX23_typeAll_72 : decode cX23_typeAll 72 = .ok (.invokevirtual 616, 3) := by decide +kernel
theorem dX23_typeAll_75 : decode cX23_typeAll 75 = .ok (.iconst 0, 1) := by decide +kernel
theorem dX23_typeAll_76 : decode cX23_typeAll 76 = .ok (.istore_n 1, 1) := by decide +kernel
theorem dX23_typeAll_77 : decode cX23_typeAll 77 = .ok (.iload_n 1, 1) := by decide +kernel
theorem dX23_typeAll_78 : decode cX23_typeAll 78 = .ok (.aload_n 0, 1) := by decide +kernel
theorem dX23_typeAll_79 : decode cX23_typeAll 79 = .ok (.getfield 221, 3) := by decide +kernel
theorem dX23_typeAll_82 : decode cX23_typeAll 82 = .ok (.if_icmp .ge 35, 3) := by decide +kernel
theorem dX23_typeAll_85 : decode cX23_typeAll 85 = .ok (.aload_n 0, 1) := by decide +kernel
theorem dX23_typeAll_86 : decode cX23_typeAll 86 = .ok (.invokevirtual 89, 3) := by decide +kernel
theorem dX23_typeAll_89 : decode cX23_typeAll 89 = .ok (.ifCond .eq 28, 3) := by decide +kernel
theorem dX23_typeAll_92 : decode cX23_typeAll 92 = .ok (.aload_n 0, 1) := by decide +kernel
theorem dX23_typeAll_93 : decode cX23_typeAll 93 = .ok (.getfield 232, 3) := by decide +kernel
theorem dX23_typeAll_96 : decode cX23_typeAll 96 = .ok (.iload_n 1, 1) := by decide +kernel
theorem dX23_typeAll_97 : decode cX23_typeAll 97 = .ok (.aaload, 1) := by decide +kernel
theorem dX23_typeAll_98 : decode cX23_typeAll 98 = .ok (.getfield 174, 3) := by decide +kernel
theorem dX23_typeAll_101 : decode cX23_typeAll 101 = .ok (.bipush 12, 2) := by decide +kernel
theorem dX23_typeAll_103 : decode cX23_typeAll 103 = .ok (.if_icmp .ne 8, 3) := by decide +kernel
theorem dX23_typeAll_106 : decode cX23_typeAll 106 = .ok (.aload_n 0, 1) := by decide +kernel
theorem dX23_typeAll_107 : decode cX23_typeAll 107 = .ok (.iload_n 1, 1) := by decide +kernel
theorem dX23_typeAll_108 : decode cX23_typeAll 108 = .ok (.invokevirtual 619, 3) := by decide +kernel
theorem dX23_typeAll_111 : decode cX23_typeAll 111 = .ok (.iinc 1 1, 3) := by decide +kernel
theorem dX23_typeAll_114 : decode cX23_typeAll 114 = .ok (.goto (-37), 3) := by decide +kernel
theorem dX23_typeAll_117 : decode cX23_typeAll 117 = .ok (.return_, 1) := by decide +kernel
theorem dX23_itemNames_0 : decode cX23_itemNames 0 = .ok (.iconst 0, 1) := by decide +kernel
theorem dX23_itemNames_1 : decode cX23_itemNames 1 = .ok (.istore_n 1, 1) := by decide +kernel
theorem dX23_itemNames_2 : decode cX23_itemNames 2 = .ok (.iload_n 1, 1) := by decide +kernel
theorem dX23_itemNames_3 : decode cX23_itemNames 3 = .ok (.aload_n 0, 1) := by decide +kernel
theorem dX23_itemNames_4 : decode cX23_itemNames 4 = .ok (.getfield 221, 3) := by decide +kernel
theorem dX23_itemNames_7 : decode cX23_itemNames 7 = .ok (.if_icmp .ge 61, 3) := by decide +kernel
theorem dX23_itemNames_10 : decode cX23_itemNames 10 = .ok (.iconst 0, 1) := by decide +kernel
theorem dX23_itemNames_11 : decode cX23_itemNames 11 = .ok (.istore_n 2, 1) := by decide +kernel
theorem dX23_itemNames_12 : decode cX23_itemNames 12 = .ok (.iload_n 2, 1) := by decide +kernel
theorem dX23_itemNames_13 : decode cX23_itemNames 13 = .ok (.iload_n 1, 1) := by decide +kernel
theorem dX23_itemNames_14 : decode cX23_itemNames 14 = .ok (.if_icmp .ge 48, 3) := by decide +kernel
theorem dX23_itemNames_17 : decode cX23_itemNames 17 = .ok (.aload_n 0, 1) := by decide +kernel
theorem dX23_itemNames_18 : decode cX23_itemNames 18 = .ok (.aload_n 0, 1) := by decide +kernel
theorem dX23_itemNames_19 : decode cX23_itemNames 19 = .ok (.getfield 232, 3) := by decide +kernel
theorem dX23_itemNames_22 : decode cX23_itemNames 22 = .ok (.iload_n 1, 1) := by decide +kernel
theorem dX23_itemNames_23 : decode cX23_itemNames 23 = .ok (.aaload, 1) := by decide +kernel
theorem dX23_itemNames_24 : decode cX23_itemNames 24 = .ok (.getfield 176, 3) := by decide +kernel
theorem dX23_itemNames_27 : decode cX23_itemNames 27 = .ok (.aload_n 0, 1) := by decide +kernel
theorem dX23_itemNames_28 : decode cX23_itemNames 28 = .ok (.getfield 232, 3) := by decide +kernel
theorem dX23_itemNames_31 : decode cX23_itemNames 31 = .ok (.iload_n 2, 1) := by decide +kernel
theorem dX23_itemNames_32 : decode cX23_itemNames 32 = .ok (.aaload, 1) := by decide +kernel
theorem dX23_itemNames_33 : decode cX23_itemNames 33 = .ok (.getfield 176, 3) := by decide +kernel
theorem dX23_itemNames_36 : decode cX23_itemNames 36 = .ok (.invokevirtual 401, 3) := by decide +kernel
theorem dX23_itemNames_39 : decode cX23_itemNames 39 = .ok (.ifCond .eq 17, 3) := by decide +kernel
theorem dX23_itemNames_42 : decode cX23_itemNames 42 = .ok (.aload_n 0, 1) := by decide +kernel
theorem dX23_itemNames_43 : decode cX23_itemNames 43 = .ok (.iconst 3, 1) := by decide +kernel
theorem dX23_itemNames_44 : decode cX23_itemNames 44 = .ok (.aload_n 0, 1) := by decide +kernel
theorem dX23_itemNames_45 : decode cX23_itemNames 45 = .ok (.getfield 232, 3) := by decide +kernel
theorem dX23_itemNames_48 : decode cX23_itemNames 48 = .ok (.iload_n 1, 1) := by decide +kernel
theorem dX23_itemNames_49 : decode cX23_itemNames 49 = .ok (.aaload, 1) := by decide +kernel
theorem dX23_itemNames_50 : decode cX23_itemNames 50 = .ok (.getfield 176, 3) := by decide +kernel
theorem dX23_itemNames_53 : decode cX23_itemNames 53 = .ok (.invokevirtual 96, 3) := by decide +kernel
theorem dX23_itemNames_56 : decode cX23_itemNames 56 = .ok (.iinc 2 1, 3) := by decide +kernel
theorem dX23_itemNames_59 : decode cX23_itemNames 59 = .ok (.goto (-47), 3) := by decide +kernel
theorem dX23_itemNames_62 : decode cX23_itemNames 62 = .ok (.iinc 1 1, 3) := by decide +kernel
theorem dX23_itemNames_65 : decode cX23_itemNames 65 = .ok (.goto (-63), 3) := by decide +kernel
theorem dX23_itemNames_68 : decode cX23_itemNames 68 = .ok (.return_, 1) := by decide +kernel
theorem dX23_sizes_0 : decode cX23_sizes 0 = .ok (.aload_n 0, 1) := by decide +kernel
theorem dX23_sizes_1 : decode cX23_sizes 1 = .ok (.invokevirtual 451, 3) := by decide +kernel
theorem dX23_sizes_4 : decode cX23_sizes 4 = .ok (.iconst 0, 1) := by decide +kernel
theorem dX23_sizes_5 : decode cX23_sizes 5 = .ok (.istore_n 1, 1) := by decide +kernel
theorem dX23_sizes_6 : decode cX23_sizes 6 = .ok (.iload_n 1, 1) := by decide +kernel
theorem dX23_sizes_7 : decode cX23_sizes 7 = .ok (.aload_n 0, 1) := by decide +kernel
theorem dX23_sizes_8 : decode cX23_sizes 8 = .ok (.getfield 221, 3) := by decide +kernel
theorem dX23_sizes_11 : decode cX23_sizes 11 = .ok (.if_icmp .ge 71, 3) := by decide +kernel
theorem dX23_sizes_14 : decode cX23_sizes 14 = .ok (.aload_n 0, 1) := by decide +kernel
theorem dX23_sizes_15 : decode cX23_sizes 15 = .ok (.invokevirtual 89, 3) := by decide +kernel
theorem dX23_sizes_18 : decode cX23_sizes 18 = .ok (.ifCond .eq 64, 3) := by decide +kernel
theorem dX23_sizes_21 : decode cX23_sizes 21 = .ok (.aload_n 0, 1) := by decide +kernel
theorem dX23_sizes_22 : decode cX23_sizes 22 = .ok (.getfield 232, 3) := by decide +kernel
theorem dX23_sizes_25 : decode cX23_sizes 25 = .ok (.iload_n 1, 1) := by decide +kernel
theorem dX23_sizes_26 : decode cX23_sizes 26 = .ok (.aaload, 1) := by decide +kernel
theorem dX23_sizes_27 : decode cX23_sizes 27 = .ok (.getfield 174, 3) := by decide +kernel
theorem dX23_sizes_30 : decode cX23_sizes 30 = .ok (.bipush 12, 2) := by decide +kernel
theorem dX23_sizes_32 : decode cX23_sizes 32 = .ok (.if_icmp .eq 44, 3) := by decide +kernel
theorem dX23_sizes_35 : decode cX23_sizes 35 = .ok (.aload_n 0, 1) := by decide +kernel
theorem dX23_sizes_36 : decode cX23_sizes 36 = .ok (.getfield 232, 3) := by decide +kernel
theorem dX23_sizes_39 : decode cX23_sizes 39 = .ok (.iload_n 1, 1) := by decide +kernel
theorem dX23_sizes_40 : decode cX23_sizes 40 = .ok (.aaload, 1) := by decide +kernel
theorem dX23_sizes_41 : decode cX23_sizes 41 = .ok (.getfield 439, 3) := by decide +kernel
theorem dX23_sizes_44 : decode cX23_sizes 44 = .ok (.ifCond .ne 18, 3) := by decide +kernel
theorem dX23_sizes_47 : decode cX23_sizes 47 = .ok (.aload_n 0, 1) := by decide +kernel
theorem dX23_sizes_48 : decode cX23_sizes 48 = .ok (.aload_n 0, 1) := by decide +kernel
theorem dX23_sizes_49 : decode cX23_sizes 49 = .ok (.getfield 232, 3) := by decide +kernel
theorem dX23_sizes_52 : decode cX23_sizes 52 = .ok (.iload_n 1, 1) := by decide +kernel
theorem dX23_sizes_53 : decode cX23_sizes 53 = .ok (.aaload, 1) := by decide +kernel
theorem dX23_sizes_54 : decode cX23_sizes 54 = .ok (.invokevirtual 443, 3) := by decide +kernel
theorem dX23_sizes_57 : decode cX23_sizes 57 = .ok (.bipush 16, 2) := by decide +kernel
theorem dX23_sizes_59 : decode cX23_sizes 59 = .ok (.if_icmp .le 17, 3) := by decide +kernel
theorem dX23_sizes_62 : decode cX23_sizes 62 = .ok (.aload_n 0, 1) := by decide +kernel
theorem dX23_sizes_63 : decode cX23_sizes 63 = .ok (.iconst 4, 1) := by decide +kernel
theorem dX23_sizes_64 : decode cX23_sizes 64 = .ok (.aload_n 0, 1) := by decide +kernel
theorem dX23_sizes_65 : decode cX23_sizes 65 = .ok (.getfield 232, 3) := by decide +kernel
theorem dX23_sizes_68 : decode cX23_sizes 68 = .ok (.iload_n 1, 1) := by decide +kernel
theorem dX23_sizes_69 : decode cX23_sizes 69 = .ok (.aaload, 1) := by decide +kernel
theorem dX23_sizes_70 : decode cX23_sizes 70 = .ok (.getfield 176, 3) := by decide +kernel
theorem dX23_sizes_73 : decode cX23_sizes 73 = .ok (.invokevirtual 96, 3) := by decide +kernel
theorem dX23_sizes_76 : decode cX23_sizes 76 = .ok (.iinc 1 1, 3) := by decide +kernel
theorem dX23_sizes_79 : decode cX23_sizes 79 = .ok (.goto (-73), 3) := by decide +kernel
theorem dX23_sizes_82 : decode cX23_sizes 82 = .ok (.return_, 1) := by decide +kernel
theorem dX23_leaves_0 : decode cX23_leaves 0 = .ok (.iconst 0, 1) := by decide +kernel
theorem dX23_leaves_1 : decode cX23_leaves 1 = .ok (.istore_n 1, 1) := by decide +kernel
theorem dX23_leaves_2 : decode cX23_leaves 2 = .ok (.iload_n 1, 1) := by decide +kernel
theorem dX23_leaves_3 : decode cX23_leaves 3 = .ok (.aload_n 0, 1) := by decide +kernel
theorem dX23_leaves_4 : decode cX23_leaves 4 = .ok (.getfield 221, 3) := by decide +kernel
theorem dX23_leaves_7 : decode cX23_leaves 7 = .ok (.if_icmp .ge 34, 3) := by decide +kernel
theorem dX23_leaves_10 : decode cX23_leaves 10 = .ok (.aload_n 0, 1) := by decide +kernel
theorem dX23_leaves_11 : decode cX23_leaves 11 = .ok (.getfield 232, 3) := by decide +kernel
theorem dX23_leaves_14 : decode cX23_leaves 14 = .ok (.iload_n 1, 1) := by decide +kernel
theorem dX23_leaves_15 : decode cX23_leaves 15 = .ok (.aaload, 1) := by decide +kernel
theorem dX23_leaves_16 : decode cX23_leaves 16 = .ok (.getfield 174, 3) := by decide +kernel
theorem dX23_leaves_19 : decode cX23_leaves 19 = .ok (.bipush 10, 2) := by decide +kernel
theorem dX23_leaves_21 : decode cX23_leaves 21 = .ok (.if_icmp .ne 14, 3) := by decide +kernel
theorem dX23_leaves_24 : decode cX23_leaves 24 = .ok (.aload_n 0, 1) := by decide +kernel
theorem dX23_leaves_25 : decode cX23_leaves 25 = .ok (.aload_n 0, 1) := by decide +kernel
theorem dX23_leaves_26 : decode cX23_leaves 26 = .ok (.getfield 232, 3) := by decide +kernel
theorem dX23_leaves_29 : decode cX23_leaves 29 = .ok (.iload_n 1, 1) := by decide +kernel
theorem dX23_leaves_30 : decode cX23_leaves 30 = .ok (.aaload, 1) := by decide +kernel
theorem dX23_leaves_31 : decode cX23_leaves 31 = .ok (.invokevirtual 456, 3) := by decide +kernel
theorem dX23_leaves_34 : decode cX23_leaves 34 = .ok (.pop, 1) := by decide +kernel
theorem dX23_leaves_35 : decode cX23_leaves 35 = .ok (.iinc 1 1, 3) := by decide +kernel
theorem dX23_leaves_38 : decode cX23_leaves 38 = .ok (.goto (-36), 3) := by decide +kernel
theorem dX23_leaves_41 : decode cX23_leaves 41 = .ok (.return_, 1) := by decide +kernel
theorem dX23_findMain_0 : decode cX23_findMain 0 = .ok (.aload_n 0, 1) := by decide +kernel
theorem dX23_findMain_1 : decode cX23_findMain 1 = .ok (.iconst (-1), 1) := by decide +kernel
theorem dX23_findMain_2 : decode cX23_findMain 2 = .ok (.putfield 459, 3) := by decide +kernel
theorem dX23_findMain_5 : decode cX23_findMain 5 = .ok (.iconst 0, 1) := by decide +kernel
theorem dX23_findMain_6 : decode cX23_findMain 6 = .ok (.istore_n 1, 1) := by decide +kernel
theorem dX23_findMain_7 : decode cX23_findMain 7 = .ok (.iload_n 1, 1) := by decide +kernel
theorem dX23_findMain_8 : decode cX23_findMain 8 = .ok (.aload_n 0, 1) := by decide +kernel
theorem dX23_findMain_9 : decode cX23_findMain 9 = .ok (.getfield 221, 3) := by decide +kernel
theorem dX23_findMain_12 : decode cX23_findMain 12 = .ok (.if_icmp .ge 44, 3) := by decide +kernel
theorem dX23_findMain_15 : decode cX23_findMain 15 = .ok (.aload_n 0, 1) := by decide +kernel
theorem dX23_findMain_16 : decode cX23_findMain 16 = .ok (.getfield 232, 3) := by decide +kernel
theorem dX23_findMain_19 : decode cX23_findMain 19 = .ok (.iload_n 1, 1) := by decide +kernel
theorem dX23_findMain_20 : decode cX23_findMain 20 = .ok (.aaload, 1) := by decide +kernel
theorem dX23_findMain_21 : decode cX23_findMain 21 = .ok (.getfield 174, 3) := by decide +kernel
theorem dX23_findMain_24 : decode cX23_findMain 24 = .ok (.bipush 12, 2) := by decide +kernel
theorem dX23_findMain_26 : decode cX23_findMain 26 = .ok (.if_icmp .ne 24, 3) := by decide +kernel
theorem dX23_findMain_29 : decode cX23_findMain 29 = .ok (.aload_n 0, 1) := by decide +kernel
theorem dX23_findMain_30 : decode cX23_findMain 30 = .ok (.aload_n 0, 1) := by decide +kernel
theorem dX23_findMain_31 : decode cX23_findMain 31 = .ok (.getfield 232, 3) := by decide +kernel
theorem dX23_findMain_34 : decode cX23_findMain 34 = .ok (.iload_n 1, 1) := by decide +kernel
theorem dX23_findMain_35 : decode cX23_findMain 35 = .ok (.aaload, 1) := by decide +kernel
theorem dX23_findMain_36 : decode cX23_findMain 36 = .ok (.getfield 176, 3) := by decide +kernel
theorem dX23_findMain_39 : decode cX23_findMain 39 = .ok (.invokevirtual 462, 3) := by decide +kernel
theorem dX23_findMain_42 : decode cX23_findMain 42 = .ok (.ifCond .eq 8, 3) := by decide +kernel
theorem dX23_findMain_45 : decode cX23_findMain 45 = .ok (.aload_n 0, 1) := by decide +kernel
theorem dX23_findMain_46 : decode cX23_findMain 46 = .ok (.iload_n 1, 1) := by decide +kernel
theorem dX23_findMain_47 : decode cX23_findMain 47 = .ok (.putfield 459, 3) := by decide +kernel
theorem dX23_findMain_50 : decode cX23_findMain 50 = .ok (.iinc 1 1, 3) := by decide +kernel
theorem dX23_findMain_53 : decode cX23_findMain 53 = .ok (.goto (-46), 3) := by decide +kernel
theorem dX23_findMain_56 : decode cX23_findMain 56 = .ok (.aload_n 0, 1) := by decide +kernel
theorem dX23_findMain_57 : decode cX23_findMain 57 = .ok (.getfield 459, 3) := by decide +kernel
theorem dX23_findMain_60 : decode cX23_findMain 60 = .ok (.ifCond .ge 17, 3) := by decide +kernel
theorem dX23_findMain_63 : decode cX23_findMain 63 = .ok (.aload_n 0, 1) := by decide +kernel
theorem dX23_findMain_64 : decode cX23_findMain 64 = .ok (.iconst 3, 1) := by decide +kernel
theorem dX23_findMain_65 : decode cX23_findMain 65 = .ok (.aload_n 0, 1) := by decide +kernel
theorem dX23_findMain_66 : decode cX23_findMain 66 = .ok (.getfield 28, 3) := by decide +kernel
theorem dX23_findMain_69 : decode cX23_findMain 69 = .ok (.iconst 1, 1) := by decide +kernel
theorem dX23_findMain_70 : decode cX23_findMain 70 = .ok (.isub, 1) := by decide +kernel
theorem dX23_findMain_71 : decode cX23_findMain 71 = .ok (.invokevirtual 96, 3) := by decide +kernel
theorem dX23_findMain_74 : decode cX23_findMain 74 = .ok (.goto 70, 3) := by decide +kernel
theorem dX23_findMain_77 : decode cX23_findMain 77 = .ok (.aload_n 0, 1) := by decide +kernel
theorem dX23_findMain_78 : decode cX23_findMain 78 = .ok (.getfield 232, 3) := by decide +kernel
theorem dX23_findMain_81 : decode cX23_findMain 81 = .ok (.aload_n 0, 1) := by decide +kernel
theorem dX23_findMain_82 : decode cX23_findMain 82 = .ok (.getfield 459, 3) := by decide +kernel
theorem dX23_findMain_85 : decode cX23_findMain 85 = .ok (.aaload, 1) := by decide +kernel
theorem dX23_findMain_86 : decode cX23_findMain 86 = .ok (.getfield 139, 3) := by decide +kernel
theorem dX23_findMain_89 : decode cX23_findMain 89 = .ok (.ifCond .gt 38, 3) := by decide +kernel
theorem dX23_findMain_92 : decode cX23_findMain 92 = .ok (.aload_n 0, 1) := by decide +kernel
theorem dX23_findMain_93 : decode cX23_findMain 93 = .ok (.getfield 232, 3) := by decide +kernel
theorem dX23_findMain_96 : decode cX23_findMain 96 = .ok (.aload_n 0, 1) := by decide +kernel
theorem dX23_findMain_97 : decode cX23_findMain 97 = .ok (.getfield 459, 3) := by decide +kernel
theorem dX23_findMain_100 : decode cX23_findMain 100 = .ok (.aaload, 1) := by decide +kernel
theorem dX23_findMain_101 : decode cX23_findMain 101 = .ok (.getfield 184, 3) := by decide +kernel
theorem dX23_findMain_104 : decode cX23_findMain 104 = .ok (.ifCond .gt 23, 3) := by decide +kernel
theorem dX23_findMain_107 : decode cX23_findMain 107 = .ok (.aload_n 0, 1) := by decide +kernel
theorem dX23_findMain_108 : decode cX23_findMain 108 = .ok (.getfield 232, 3) := by decide +kernel
theorem dX23_findMain_111 : decode cX23_findMain 111 = .ok (.aload_n 0, 1) := by decide +kernel
theorem dX23_findMain_112 : decode cX23_findMain 112 = .ok (.getfield 459, 3) := by decide +kernel
theorem dX23_findMain_115 : decode cX23_findMain 115 = .ok (.aaload, 1) := by decide +kernel
theorem dX23_findMain_116 : decode cX23_findMain 116 = .ok (.getfield 422, 3) := by decide +kernel
theorem dX23_findMain_119 : decode cX23_findMain 119 = .ok (.getfield 386, 3) := by decide +kernel
theorem dX23_findMain_122 : decode cX23_findMain 122 = .ok (.bipush 8, 2) := by decide +kernel
theorem dX23_findMain_124 : decode cX23_findMain 124 = .ok (.if_icmp .eq 20, 3) := by decide +kernel
theorem dX23_findMain_127 : decode cX23_findMain 127 = .ok (.aload_n 0, 1) := by decide +kernel
theorem dX23_findMain_128 : decode cX23_findMain 128 = .ok (.iconst 4, 1) := by decide +kernel
theorem dX23_findMain_129 : decode cX23_findMain 129 = .ok (.aload_n 0, 1) := by decide +kernel
theorem dX23_findMain_130 : decode cX23_findMain 130 = .ok (.getfield 232, 3) := by decide +kernel
theorem dX23_findMain_133 : decode cX23_findMain 133 = .ok (.aload_n 0, 1) := by decide +kernel
theorem dX23_findMain_134 : decode cX23_findMain 134 = .ok (.getfield 459, 3) := by decide +kernel
theorem dX23_findMain_137 : decode cX23_findMain 137 = .ok (.aaload, 1) := by decide +kernel
theorem dX23_findMain_138 : decode cX23_findMain 138 = .ok (.getfield 176, 3) := by decide +kernel
theorem dX23_findMain_141 : decode cX23_findMain 141 = .ok (.invokevirtual 96, 3) := by decide +kernel
theorem dX23_findMain_144 : decode cX23_findMain 144 = .ok (.return_, 1) := by decide +kernel
theorem dL_cell_0 : decode cL_cell 0 = .ok (.iload_n 1, 1) := by decide +kernel
theorem dL_cell_1 : decode cL_cell 1 = .ok (.aload_n 0, 1) := by decide +kernel
theorem dL_cell_2 : decode cL_cell 2 = .ok (.arraylength, 1) := by decide +kernel
theorem dL_cell_3 : decode cL_cell 3 = .ok (.if_icmp .ge 9, 3) := by decide +kernel
theorem dL_cell_6 : decode cL_cell 6 = .ok (.aload_n 0, 1) := by decide +kernel
theorem dL_cell_7 : decode cL_cell 7 = .ok (.iload_n 1, 1) := by decide +kernel
theorem dL_cell_8 : decode cL_cell 8 = .ok (.iaload, 1) := by decide +kernel
theorem dL_cell_9 : decode cL_cell 9 = .ok (.goto 4, 3) := by decide +kernel
theorem dL_cell_12 : decode cL_cell 12 = .ok (.iconst 0, 1) := by decide +kernel
theorem dL_cell_13 : decode cL_cell 13 = .ok (.ireturn, 1) := by decide +kernel
theorem dL_law_0 : decode cL_law 0 = .ok (.new 7, 3) := by decide +kernel
theorem dL_law_3 : decode cL_law 3 = .ok (.dup, 1) := by decide +kernel
theorem dL_law_4 : decode cL_law 4 = .ok (.aload_n 0, 1) := by decide +kernel
theorem dL_law_5 : decode cL_law 5 = .ok (.iconst 0, 1) := by decide +kernel
theorem dL_law_6 : decode cL_law 6 = .ok (.invokestatic 9, 3) := by decide +kernel
theorem dL_law_9 : decode cL_law 9 = .ok (.invokespecial 15, 3) := by decide +kernel
theorem dL_law_12 : decode cL_law 12 = .ok (.astore_n 1, 1) := by decide +kernel
theorem dL_law_13 : decode cL_law 13 = .ok (.new 18, 3) := by decide +kernel
theorem dL_law_16 : decode cL_law 16 = .ok (.dup, 1) := by decide +kernel
theorem dL_law_17 : decode cL_law 17 = .ok (.aload_n 0, 1) := by decide +kernel
theorem dL_law_18 : decode cL_law 18 = .ok (.iconst 0, 1) := by decide +kernel
theorem dL_law_19 : decode cL_law 19 = .ok (.invokestatic 9, 3) := by decide +kernel
theorem dL_law_22 : decode cL_law 22 = .ok (.invokespecial 20, 3) := by decide +kernel
theorem dL_law_25 : decode cL_law 25 = .ok (.astore_n 2, 1) := by decide +kernel
theorem dL_law_26 : decode cL_law 26 = .ok (.iconst 1, 1) := by decide +kernel
theorem dL_law_27 : decode cL_law 27 = .ok (.istore_n 3, 1) := by decide +kernel
theorem dL_law_28 : decode cL_law 28 = .ok (.iload_n 3, 1) := by decide +kernel
theorem dL_law_29 : decode cL_law 29 = .ok (.aload_n 0, 1) := by decide +kernel
theorem dL_law_30 : decode cL_law 30 = .ok (.arraylength, 1) := by decide +kernel
theorem dL_law_31 : decode cL_law 31 = .ok (.bipush 6, 2) := by decide +kernel
theorem dL_law_33 : decode cL_law 33 = .ok (.isub, 1) := by decide +kernel
theorem dL_law_34 : decode cL_law 34 = .ok (.if_icmp .gt 251, 3) := by decide +kernel
theorem dL_law_37 : decode cL_law 37 = .ok (.aload_n 0, 1) := by decide +kernel
theorem dL_law_38 : decode cL_law 38 = .ok (.iload_n 3, 1) := by decide +kernel
theorem dL_law_39 : decode cL_law 39 = .ok (.iaload, 1) := by decide +kernel
theorem dL_law_40 : decode cL_law 40 = .ok (.bipush 7, 2) := by decide +kernel
theorem dL_law_42 : decode cL_law 42 = .ok (.iand, 1) := by decide +kernel
theorem dL_law_43 : decode cL_law 43 = .ok (.tableswitch 236 0 5 #[37, 100, 153, 186, 199, 213], 37) := by decide +kernel
theorem dL_law_80 : decode cL_law 80 = .ok (.aload_n 1, 1) := by decide +kernel
theorem dL_law_81 : decode cL_law 81 = .ok (.aload_n 0, 1) := by decide +kernel
theorem dL_law_82 : decode cL_law 82 = .ok (.iload_n 3, 1) := by decide +kernel
theorem dL_law_83 : decode cL_law 83 = .ok (.iconst 1, 1) := by decide +kernel
theorem dL_law_84 : decode cL_law 84 = .ok (.iadd, 1) := by decide +kernel
theorem dL_law_85 : decode cL_law 85 = .ok (.iaload, 1) := by decide +kernel
theorem dL_law_86 : decode cL_law 86 = .ok (.aload_n 0, 1) := by decide +kernel
theorem dL_law_87 : decode cL_law 87 = .ok (.iload_n 3, 1) := by decide +kernel
theorem dL_law_88 : decode cL_law 88 = .ok (.iconst 2, 1) := by decide +kernel
theorem dL_law_89 : decode cL_law 89 = .ok (.iadd, 1) := by decide +kernel
theorem dL_law_90 : decode cL_law 90 = .ok (.iaload, 1) := by decide +kernel
theorem dL_law_91 : decode cL_law 91 = .ok (.aload_n 0, 1) := by decide +kernel
theorem dL_law_92 : decode cL_law 92 = .ok (.iload_n 3, 1) := by decide +kernel
theorem dL_law_93 : decode cL_law 93 = .ok (.iconst 3, 1) := by decide +kernel
theorem dL_law_94 : decode cL_law 94 = .ok (.iadd, 1) := by decide +kernel
theorem dL_law_95 : decode cL_law 95 = .ok (.iaload, 1) := by decide +kernel
theorem dL_law_96 : decode cL_law 96 = .ok (.aload_n 0, 1) := by decide +kernel
theorem dL_law_97 : decode cL_law 97 = .ok (.iload_n 3, 1) := by decide +kernel
theorem dL_law_98 : decode cL_law 98 = .ok (.iconst 4, 1) := by decide +kernel
theorem dL_law_99 : decode cL_law 99 = .ok (.iadd, 1) := by decide +kernel
theorem dL_law_100 : decode cL_law 100 = .ok (.iaload, 1) := by decide +kernel
theorem dL_law_101 : decode cL_law 101 = .ok (.aload_n 0, 1) := by decide +kernel
theorem dL_law_102 : decode cL_law 102 = .ok (.iload_n 3, 1) := by decide +kernel
theorem dL_law_103 : decode cL_law 103 = .ok (.iconst 5, 1) := by decide +kernel
theorem dL_law_104 : decode cL_law 104 = .ok (.iadd, 1) := by decide +kernel
theorem dL_law_105 : decode cL_law 105 = .ok (.iaload, 1) := by decide +kernel
theorem dL_law_106 : decode cL_law 106 = .ok (.invokevirtual 21, 3) := by decide +kernel
theorem dL_law_109 : decode cL_law 109 = .ok (.aload_n 2, 1) := by decide +kernel
theorem dL_law_110 : decode cL_law 110 = .ok (.aload_n 0, 1) := by decide +kernel
theorem dL_law_111 : decode cL_law 111 = .ok (.iload_n 3, 1) := by decide +kernel
theorem dL_law_112 : decode cL_law 112 = .ok (.iconst 1, 1) := by decide +kernel
theorem dL_law_113 : decode cL_law 113 = .ok (.iadd, 1) := by decide +kernel
theorem dL_law_114 : decode cL_law 114 = .ok (.iaload, 1) := by decide +kernel
theorem dL_law_115 : decode cL_law 115 = .ok (.aload_n 0, 1) := by decide +kernel
theorem dL_law_116 : decode cL_law 116 = .ok (.iload_n 3, 1) := by decide +kernel
theorem dL_law_117 : decode cL_law 117 = .ok (.iconst 2, 1) := by decide +kernel
theorem dL_law_118 : decode cL_law 118 = .ok (.iadd, 1) := by decide +kernel
theorem dL_law_119 : decode cL_law 119 = .ok (.iaload, 1) := by decide +kernel
theorem dL_law_120 : decode cL_law 120 = .ok (.aload_n 0, 1) := by decide +kernel
theorem dL_law_121 : decode cL_law 121 = .ok (.iload_n 3, 1) := by decide +kernel
theorem dL_law_122 : decode cL_law 122 = .ok (.iconst 3, 1) := by decide +kernel
theorem dL_law_123 : decode cL_law 123 = .ok (.iadd, 1) := by decide +kernel
theorem dL_law_124 : decode cL_law 124 = .ok (.iaload, 1) := by decide +kernel
theorem dL_law_125 : decode cL_law 125 = .ok (.aload_n 0, 1) := by decide +kernel
theorem dL_law_126 : decode cL_law 126 = .ok (.iload_n 3, 1) := by decide +kernel
theorem dL_law_127 : decode cL_law 127 = .ok (.iconst 4, 1) := by decide +kernel
theorem dL_law_128 : decode cL_law 128 = .ok (.iadd, 1) := by decide +kernel
theorem dL_law_129 : decode cL_law 129 = .ok (.iaload, 1) := by decide +kernel
theorem dL_law_130 : decode cL_law 130 = .ok (.aload_n 0, 1) := by decide +kernel
theorem dL_law_131 : decode cL_law 131 = .ok (.iload_n 3, 1) := by decide +kernel
theorem dL_law_132 : decode cL_law 132 = .ok (.iconst 5, 1) := by decide +kernel
theorem dL_law_133 : decode cL_law 133 = .ok (.iadd, 1) := by decide +kernel
theorem dL_law_134 : decode cL_law 134 = .ok (.iaload, 1) := by decide +kernel
theorem dL_law_135 : decode cL_law 135 = .ok (.invokevirtual 25, 3) := by decide +kernel
theorem dL_law_138 : decode cL_law 138 = .ok (.if_icmp .eq 141, 3) := by decide +kernel
theorem dL_law_141 : decode cL_law 141 = .ok (.iconst 0, 1) := by decide +kernel
theorem dL_law_142 : decode cL_law 142 = .ok (.ireturn, 1) := by decide +kernel
theorem dL_law_143 : decode cL_law 143 = .ok (.aload_n 1, 1) := by decide +kernel
theorem dL_law_144 : decode cL_law 144 = .ok (.aload_n 0, 1) := by decide +kernel
theorem dL_law_145 : decode cL_law 145 = .ok (.iload_n 3, 1) := by decide +kernel
theorem dL_law_146 : decode cL_law 146 = .ok (.iconst 1, 1) := by decide +kernel
theorem dL_law_147 : decode cL_law 147 = .ok (.iadd, 1) := by decide +kernel
theorem dL_law_148 : decode cL_law 148 = .ok (.iaload, 1) := by decide +kernel
theorem dL_law_149 : decode cL_law 149 = .ok (.i2l, 1) := by decide +kernel
theorem dL_law_150 : decode cL_law 150 = .ok (.bipush 32, 2) := by decide +kernel
theorem dL_law_152 : decode cL_law 152 = .ok (.lshl, 1) := by decide +kernel
theorem dL_law_153 : decode cL_law 153 = .ok (.aload_n 0, 1) := by decide +kernel
theorem dL_law_154 : decode cL_law 154 = .ok (.iload_n 3, 1) := by decide +kernel
theorem dL_law_155 : decode cL_law 155 = .ok (.iconst 2, 1) := by decide +kernel
theorem dL_law_156 : decode cL_law 156 = .ok (.iadd, 1) := by decide +kernel
theorem dL_law_157 : decode cL_law 157 = .ok (.iaload, 1) := by decide +kernel
theorem dL_law_158 : decode cL_law 158 = .ok (.i2l, 1) := by decide +kernel
theorem dL_law_159 : decode cL_law 159 = .ok (.ldc2_w 26, 3) := by decide +kernel
theorem dL_law_162 : decode cL_law 162 = .ok (.land, 1) := by decide +kernel
theorem dL_law_163 : decode cL_law 163 = .ok (.lor, 1) := by decide +kernel
theorem dL_law_164 : decode cL_law 164 = .ok (.invokevirtual 28, 3) := by decide +kernel
theorem dL_law_167 : decode cL_law 167 = .ok (.aload_n 2, 1) := by decide +kernel
theorem dL_law_168 : decode cL_law 168 = .ok (.aload_n 0, 1) := by decide +kernel
theorem dL_law_169 : decode cL_law 169 = .ok (.iload_n 3, 1) := by decide +kernel
theorem dL_law_170 : decode cL_law 170 = .ok (.iconst 1, 1) := by decide +kernel
theorem dL_law_171 : decode cL_law 171 = .ok (.iadd, 1) := by decide +kernel
theorem dL_law_172 : decode cL_law 172 = .ok (.iaload, 1) := by decide +kernel
theorem dL_law_173 : decode cL_law 173 = .ok (.i2l, 1) := by decide +kernel
theorem dL_law_174 : decode cL_law 174 = .ok (.bipush 32, 2) := by decide +kernel
theorem dL_law_176 : decode cL_law 176 = .ok (.lshl, 1) := by decide +kernel
theorem dL_law_177 : decode cL_law 177 = .ok (.aload_n 0, 1) := by decide +kernel
theorem dL_law_178 : decode cL_law 178 = .ok (.iload_n 3, 1) := by decide +kernel
theorem dL_law_179 : decode cL_law 179 = .ok (.iconst 2, 1) := by decide +kernel
theorem dL_law_180 : decode cL_law 180 = .ok (.iadd, 1) := by decide +kernel
theorem dL_law_181 : decode cL_law 181 = .ok (.iaload, 1) := by decide +kernel
theorem dL_law_182 : decode cL_law 182 = .ok (.i2l, 1) := by decide +kernel
theorem dL_law_183 : decode cL_law 183 = .ok (.ldc2_w 26, 3) := by decide +kernel
theorem dL_law_186 : decode cL_law 186 = .ok (.land, 1) := by decide +kernel
theorem dL_law_187 : decode cL_law 187 = .ok (.lor, 1) := by decide +kernel
theorem dL_law_188 : decode cL_law 188 = .ok (.invokevirtual 32, 3) := by decide +kernel
theorem dL_law_191 : decode cL_law 191 = .ok (.if_icmp .eq 88, 3) := by decide +kernel
theorem dL_law_194 : decode cL_law 194 = .ok (.iconst 0, 1) := by decide +kernel
theorem dL_law_195 : decode cL_law 195 = .ok (.ireturn, 1) := by decide +kernel
theorem dL_law_196 : decode cL_law 196 = .ok (.aload_n 1, 1) := by decide +kernel
theorem dL_law_197 : decode cL_law 197 = .ok (.aload_n 0, 1) := by decide +kernel
theorem dL_law_198 : decode cL_law 198 = .ok (.iload_n 3, 1) := by decide +kernel
theorem dL_law_199 : decode cL_law 199 = .ok (.iconst 1, 1) := by decide +kernel
theorem dL_law_200 : decode cL_law 200 = .ok (.iadd, 1) := by decide +kernel
theorem dL_law_201 : decode cL_law 201 = .ok (.iaload, 1) := by decide +kernel
theorem dL_law_202 : decode cL_law 202 = .ok (.aload_n 0, 1) := by decide +kernel
theorem dL_law_203 : decode cL_law 203 = .ok (.iload_n 3, 1) := by decide +kernel
theorem dL_law_204 : decode cL_law 204 = .ok (.iconst 2, 1) := by decide +kernel
theorem dL_law_205 : decode cL_law 205 = .ok (.iadd, 1) := by decide +kernel
theorem dL_law_206 : decode cL_law 206 = .ok (.iaload, 1) := by decide +kernel
theorem dL_law_207 : decode cL_law 207 = .ok (.invokevirtual 33, 3) := by decide +kernel
theorem dL_law_210 : decode cL_law 210 = .ok (.aload_n 2, 1) := by decide +kernel
theorem dL_law_211 : decode cL_law 211 = .ok (.aload_n 0, 1) := by decide +kernel
theorem dL_law_212 : decode cL_law 212 = .ok (.iload_n 3, 1) := by decide +kernel
theorem dL_law_213 : decode cL_law 213 = .ok (.iconst 1, 1) := by decide +kernel
theorem dL_law_214 : decode cL_law 214 = .ok (.iadd, 1) := by decide +kernel
theorem dL_law_215 : decode cL_law 215 = .ok (.iaload, 1) := by decide +kernel
theorem dL_law_216 : decode cL_law 216 = .ok (.aload_n 0, 1) := by decide +kernel
theorem dL_law_217 : decode cL_law 217 = .ok (.iload_n 3, 1) := by decide +kernel
theorem dL_law_218 : decode cL_law 218 = .ok (.iconst 2, 1) := by decide +kernel
theorem dL_law_219 : decode cL_law 219 = .ok (.iadd, 1) := by decide +kernel
theorem dL_law_220 : decode cL_law 220 = .ok (.iaload, 1) := by decide +kernel
theorem dL_law_221 : decode cL_law 221 = .ok (.invokevirtual 37, 3) := by decide +kernel
theorem dL_law_224 : decode cL_law 224 = .ok (.if_icmp .eq 55, 3) := by decide +kernel
theorem dL_law_227 : decode cL_law 227 = .ok (.iconst 0, 1) := by decide +kernel
theorem dL_law_228 : decode cL_law 228 = .ok (.ireturn, 1) := by decide +kernel
theorem dL_law_229 : decode cL_law 229 = .ok (.aload_n 1, 1) := by decide +kernel
theorem dL_law_230 : decode cL_law 230 = .ok (.invokevirtual 38, 3) := by decide +kernel
theorem dL_law_233 : decode cL_law 233 = .ok (.aload_n 2, 1) := by decide +kernel
theorem dL_law_234 : decode cL_law 234 = .ok (.invokevirtual 42, 3) := by decide +kernel
theorem dL_law_237 : decode cL_law 237 = .ok (.if_icmp .eq 42, 3) := by decide +kernel
theorem dL_law_240 : decode cL_law 240 = .ok (.iconst 0, 1) := by decide +kernel
theorem dL_law_241 : decode cL_law 241 = .ok (.ireturn, 1) := by decide +kernel
theorem dL_law_242 : decode cL_law 242 = .ok (.aload_n 1, 1) := by decide +kernel
theorem dL_law_243 : decode cL_law 243 = .ok (.invokevirtual 43, 3) := by decide +kernel
theorem dL_law_246 : decode cL_law 246 = .ok (.aload_n 2, 1) := by decide +kernel
theorem dL_law_247 : decode cL_law 247 = .ok (.invokevirtual 47, 3) := by decide +kernel
theorem dL_law_250 : decode cL_law 250 = .ok (.lcmp, 1) := by decide +kernel
theorem dL_law_251 : decode cL_law 251 = .ok (.ifCond .eq 28, 3) := by decide +kernel
theorem dL_law_254 : decode cL_law 254 = .ok (.iconst 0, 1) := by decide +kernel
theorem dL_law_255 : decode cL_law 255 = .ok (.ireturn, 1) := by decide +kernel
theorem dL_law_256 : decode cL_law 256 = .ok (.aload_n 1, 1) := by decide +kernel
theorem dL_law_257 : decode cL_law 257 = .ok (.aload_n 0, 1) := by decide +kernel
theorem dL_law_258 : decode cL_law 258 = .ok (.iload_n 3, 1) := by decide +kernel
theorem dL_law_259 : decode cL_law 259 = .ok (.iconst 1, 1) := by decide +kernel
theorem dL_law_260 : decode cL_law 260 = .ok (.iadd, 1) := by decide +kernel
theorem dL_law_261 : decode cL_law 261 = .ok (.iaload, 1) := by decide +kernel
theorem dL_law_262 : decode cL_law 262 = .ok (.invokevirtual 48, 3) := by decide +kernel
theorem dL_law_265 : decode cL_law 265 = .ok (.aload_n 2, 1) := by decide +kernel
theorem dL_law_266 : decode cL_law 266 = .ok (.aload_n 0, 1) := by decide +kernel
theorem dL_law_267 : decode cL_law 267 = .ok (.iload_n 3, 1) := by decide +kernel
theorem dL_law_268 : decode cL_law 268 = .ok (.iconst 1, 1) := by decide +kernel
theorem dL_law_269 : decode cL_law 269 = .ok (.iadd, 1) := by decide +kernel
theorem dL_law_270 : decode cL_law 270 = .ok (.iaload, 1) := by decide +kernel
theorem dL_law_271 : decode cL_law 271 = .ok (.invokevirtual 52, 3) := by decide +kernel
theorem dL_law_274 : decode cL_law 274 = .ok (.if_icmp .eq 5, 3) := by decide +kernel
theorem dL_law_277 : decode cL_law 277 = .ok (.iconst 0, 1) := by decide +kernel
theorem dL_law_278 : decode cL_law 278 = .ok (.ireturn, 1) := by decide +kernel
theorem dL_law_279 : decode cL_law 279 = .ok (.iinc 3 6, 3) := by decide +kernel
theorem dL_law_282 : decode cL_law 282 = .ok (.goto (-254), 3) := by decide +kernel
theorem dL_law_285 : decode cL_law 285 = .ok (.iconst 1, 1) := by decide +kernel
theorem dL_law_286 : decode cL_law 286 = .ok (.ireturn, 1) := by decide +kernel
end
section
/-- rows of rows of ints can be made -/
def nwA (U : State) : Prop := (Cond.arrayOver (.array .int)).before #[] U = true
theorem nwA.moved {u U : State} (hvm : u.vm.Alike U.vm) (h : nwA u) : nwA U := by
  obtain ⟨comp, c, k, h1, h2, h3, h4, h5⟩ := arrayOverA_spec h
  obtain ⟨k', hk', he⟩ := hvm.2.2 _ _ h3
  have hi : (U.vm.classes.findIdx? fun (x : Class) => match x.kind with | .array component _ => component == comp | _ => false) = some c := by
    rw [hvm.findIdx?_eq _ (fun _ => rfl)]
    exact h2
  have hkind : k'.kind = .array comp (.array .int) := by rw [he]; exact h4
  have f1 : U.vm.findClass (FieldType.array .int).toString = some comp := by rw [hvm.findClass]; exact h1
  have f2 : U.vm.findClass ("[" ++ (FieldType.array .int).toString) = some c := by rw [hvm.findClass]; exact h5
  unfold nwA Cond.before Cond.holds
  simp only [Cond.value]
  rw [f1, Option.bind_some]
  refine (congrArg (fun o : Option Nat => (o.bind (fun c => (U.vm.classes[c]?).map fun (k : Class) => match k.kind with | .array _ ty => decide (ty = FieldType.array .int) && decide (U.vm.findClass ("[" ++ (FieldType.array .int).toString) = some c) | _ => false) == some true)) hi).trans ?_
  simp [hk', hkind, f2]
/-- a row of rows that nobody reads -/
theorem nw_newA {p : Program} {l : Launch} {e : Env} {R : Room} {s : State} {m : MethodId} {args : Array Value} {below : List Frame} {meth : Method} {c : Code} {H : Heap} {locs : List Loc} {cells slots : Nat} {Q : State → Prop} {cc : ByteArray} {pc : Nat} {ls : Array Slot} {rest : List Value} {D : va_G} {cl : List vw_C} {ws : va_W} {A : Nat → Prop} {H0 : Heap} {t : FieldType}
    (hexec : p.tables.exec = Jvm.exec) (hb : c.code = cc) {own : String} {index : Nat} (hown : s.vm.findClass own = some m.cls) (hclink : (Cond.classLink own index (FieldType.array t).toString).before args s = true) (hover : (Cond.arrayOver (.array t)).before args s = true) (hP : va_P D cl ws H) (hD : va_D A ws) (hS : va_S A H0 H locs) (hA : ∀ q, H0.size ≤ q → A q)
    {n : Int32} {N' : Nat} (hn : ¬ n < 0) (hN : n.toNatClampNeg = N') (hbytes : N' * 4 ≤ 536870912) (hcells : cells + 1 ≤ R.cells) (hslots : slots + N' ≤ R.slots) (hdg : decode cc pc = .ok (.anewarray index, 3))
    (kk : ∀ (q : Nat) (H1 : Heap), va_P D cl ws H1 → va_S A H0 H1 locs → W p l e R s m args below meth c H1 locs (cells + 1) (slots + N') Q (F0 m (pc + 3) ls (.ref q :: rest))) : W p l e R s m args below meth c H locs cells slots Q (F0 m pc ls (.int n :: rest)) := by
  subst hN
  refine W.anewA hexec hb hown hclink hover rfl hdg rfl hn hbytes hcells hslots fun cA kA comp f1 f2 f3 f4 => ?_
  generalize hH1 : H.push ({ cls := cA, slots := Array.replicate n.toNatClampNeg .null, vm := .none } : Cell) = H1
  have z1 : H1.size = H.size + 1 := by rw [← hH1, Array.size_push]
  have o1 : ∀ q : Nat, q < H.size → H1[q]? = H[q]? := fun q hq => by rw [← hH1, Array.getElem?_push, if_neg (Nat.ne_of_lt hq)]
  have hk : ∀ (k : Nat) (x : Nat × va_E), ws[k]? = some x → H1[x.1]? = H[x.1]? := fun k x hx => o1 x.1 ((hP k x hx).lt)
  exact kk H.size H1 (hP.kept hk) ⟨Nat.le_trans hS.1 (by omega), fun x h1 h2 => (o1 x (Nat.lt_of_lt_of_le h1 hS.1)).trans (hS.2.1 x h1 h2), hS.2.2⟩
end
section
def wf_c_add : List Cond := [.code yX9_add cX9_add 4 none, .fieldLink RX9 9 "OwnedPlaces$Text" "kinds" "[I", .fieldLink RX9 92 "OwnedPlaces$Text" "total" "I", .fieldLink RX9 15 "OwnedPlaces$Text" "places" "[I", .fieldLink RX9 18 "OwnedPlaces$Text" "names" "[I", .fieldLink RX9 25 "OwnedPlaces$Text" "links" "[I"]
def wp_c_add : List Cond := wf_c_add ++ (wsX90 ++ [])
theorem in_c_add_X9 : ∀ w ∈ wsX90, w ∈ wp_c_add := fun w h => List.mem_append_right _ (List.mem_append_left _ h)
theorem wg_c_add : wf_c_add.all goodWord = true := by decide +kernel
theorem wm_c_add (k : Nat) {w : Cond} (h : wp_c_add[k]? = some w) : w ∈ wp_c_add := List.mem_of_getElem? h
set_option maxHeartbeats 4000000 in
set_option maxRecDepth 100000 in
/-- add(END, 0, 0) on the empty row of tokens -/
theorem c_add (l : Launch) (dC : Nat → ClassId) (dI : Nat → Nat → Nat) (h tk tp tn tu tl tb ts tf tz tx th tw : Nat) (nt : Int32) (kI : ClassId) (fk fp fn fl : Nat → Int32) (sz : Nat) : Met l yX9_add wp_c_add ({ frames := 0, cells := 0, slots := 0, locals := 0 }) (va_Pc [.ref h, .int 0, .int 0, .int 0] (fun U => U.heap.size = sz ∧ va_P (dC, dI) vwCl [(h, .inr (9, [.ref tk, .ref tp, .ref tn, .ref tu, .ref tl, .int 0, .int 0, .int 0, .int (-1), .int nt, .ref tb, .int 0, .ref ts, .ref tf, .ref tz, .ref tx, .ref th, .ref tw])), (tk, .inl (kI, 3002, .inl fk)), (tp, .inl (kI, 3002, .inl fp)), (tn, .inl (kI, 3002, .inl fn)), (tl, .inl (kI, 3002, .inl fl))] U.heap ∧ va_K (dC, dI) vwCl [(kI, .int)] U ∧ va_D (fun _ => True) [(h, .inr (9, [.ref tk, .ref tp, .ref tn, .ref tu, .ref tl, .int 0, .int 0, .int 0, .int (-1), .int nt, .ref tb, .int 0, .ref ts, .ref tf, .ref tz, .ref tx, .ref th, .ref tw])), (tk, .inl (kI, 3002, .inl fk)), (tp, .inl (kI, 3002, .inl fp)), (tn, .inl (kI, 3002, .inl fn)), (tl, .inl (kI, 3002, .inl fl))])) (va_Qv (fun _ : Unit => True) (fun (_ : Unit) (t : State) => ∃ (gk : Nat → Int32) (gp : Nat → Int32) (gn : Nat → Int32) (gl : Nat → Int32), (gk 0 = 0) ∧ (gp 0 = 0) ∧ va_P (dC, dI) vwCl [(h, .inr (9, [.ref tk, .ref tp, .ref tn, .ref tu, .ref tl, .int 0, .int 0, .int 0, .int (-1), .int nt, .ref tb, .int 1, .ref ts, .ref tf, .ref tz, .ref tx, .ref th, .ref tw])), (tk, .inl (kI, 3002, .inl gk)), (tp, .inl (kI, 3002, .inl gp)), (tn, .inl (kI, 3002, .inl gn)), (tl, .inl (kI, 3002, .inl gl))] t.heap ∧ va_K (dC, dI) vwCl [(kI, .int)] t ∧ va_D (va_A [(h, .inr (9, [.ref tk, .ref tp, .ref tn, .ref tu, .ref tl, .int 0, .int 0, .int 0, .int (-1), .int nt, .ref tb, .int 0, .ref ts, .ref tf, .ref tz, .ref tx, .ref th, .ref tw])), (tk, .inl (kI, 3002, .inl fk)), (tp, .inl (kI, 3002, .inl fp)), (tn, .inl (kI, 3002, .inl fn)), (tl, .inl (kI, 3002, .inl fl))] sz) [(h, .inr (9, [.ref tk, .ref tp, .ref tn, .ref tu, .ref tl, .int 0, .int 0, .int 0, .int (-1), .int nt, .ref tb, .int 1, .ref ts, .ref tf, .ref tz, .ref tx, .ref th, .ref tw])), (tk, .inl (kI, 3002, .inl gk)), (tp, .inl (kI, 3002, .inl gp)), (tn, .inl (kI, 3002, .inl gn)), (tl, .inl (kI, 3002, .inl gl))]) (va_A [(h, .inr (9, [.ref tk, .ref tp, .ref tn, .ref tu, .ref tl, .int 0, .int 0, .int 0, .int (-1), .int nt, .ref tb, .int 0, .ref ts, .ref tf, .ref tz, .ref tx, .ref th, .ref tw])), (tk, .inl (kI, 3002, .inl fk)), (tp, .inl (kI, 3002, .inl fp)), (tn, .inl (kI, 3002, .inl fn)), (tl, .inl (kI, 3002, .inl fl))] sz)) 0 0 (va_A [(h, .inr (9, [.ref tk, .ref tp, .ref tn, .ref tu, .ref tl, .int 0, .int 0, .int 0, .int (-1), .int nt, .ref tb, .int 0, .ref ts, .ref tf, .ref tz, .ref tx, .ref th, .ref tw])), (tk, .inl (kI, 3002, .inl fk)), (tp, .inl (kI, 3002, .inl fp)), (tn, .inl (kI, 3002, .inl fn)), (tl, .inl (kI, 3002, .inl fl))] sz) := by
  refine Met.ofW (cc := cX9_add) (maxL := 4) (ret := none) (by decide) rfl ?_
  intro p e s m args below meth c s₁ B hml hv
  obtain ⟨rfl, hsz, hP, hK, hD0⟩ := hv
  have hx := B.exec
  have hb := B.bytes
  have hr := B.returns
  have hts := atoms_spec (ws := wp_c_add) B.pre
  have hown : s.vm.findClass RX9 = some m.cls := findClass_of_methodNamed B.named
  have hlocks := B.notSynchronized
  subst hsz
  have hD := hD0.self (sz := s.heap.size)
  generalize hAe : va_A [(h, .inr (9, [.ref tk, .ref tp, .ref tn, .ref tu, .ref tl, .int 0, .int 0, .int 0, .int (-1), .int nt, .ref tb, .int 0, .ref ts, .ref tf, .ref tz, .ref tx, .ref th, .ref tw])), (tk, .inl (kI, 3002, .inl fk)), (tp, .inl (kI, 3002, .inl fp)), (tn, .inl (kI, 3002, .inl fn)), (tl, .inl (kI, 3002, .inl fl))] s.heap.size = A at hD ⊢
  have hA : ∀ q : Nat, s.heap.size ≤ q → A q := fun q h => by rw [← hAe]; exact Or.inr h
  have hS : va_S A s.heap s.heap [] := va_S.rf
  have hP : va_P (dC, dI) vwCl [(h, .inr (9, [.ref tk, .ref tp, .ref tn, .ref tu, .ref tl, .int 0, .int 0, .int 0, .int (-1), .int nt, .ref tb, .int 0, .ref ts, .ref tf, .ref tz, .ref tx, .ref th, .ref tw])), (tk, .inl (kI, 3002, .inl fk)), (tp, .inl (kI, 3002, .inl fp)), (tn, .inl (kI, 3002, .inl fn)), (tl, .inl (kI, 3002, .inl fl))] s.heap := hP
  have hl := lv_entry ([.ref h, .int 0, .int 0, .int 0]) (n := 4) (Nat.le_of_ble_eq_true rfl)
  rw [lg_entry_eq]
  generalize (lg_sl ([.ref h, .int 0, .int 0, .int 0]) ++ List.replicate (4 - (lg_sl ([.ref h, .int 0, .int 0, .int 0])).length) Slot.unset).toArray = ls at hl ⊢
  have hl : lv_has ls 4 [(0, .ref h), (1, .int 0), (2, .int 0), (3, .int 0)] := hl
  refine lv_aload_n hx hb dX9_add_0 rfl (lv_at hl 0 rfl) ?_
  refine va_get (D := (dC, dI)) (ci := 9) (v := .ref tk) (C := RX9) (T := TX9) (N := 18) hx hb hts in_c_add_X9 hown hK hP 0 rfl rfl 0 (by decide) (hts (.fieldLink RX9 9 "OwnedPlaces$Text" "kinds" "[I") (wm_c_add 1 rfl)) (fun _ h9 => h9) rfl dX9_add_1 ?_
  refine lv_aload_n hx hb dX9_add_4 rfl (lv_at hl 0 rfl) ?_
  refine va_get (D := (dC, dI)) (ci := 9) (v := .int 0) (C := RX9) (T := TX9) (N := 18) hx hb hts in_c_add_X9 hown hK hP 0 rfl rfl 11 (by decide) (hts (.fieldLink RX9 92 "OwnedPlaces$Text" "total" "I") (wm_c_add 2 rfl)) (fun _ h9 => h9) rfl dX9_add_5 ?_
  refine lv_iload_n hx hb dX9_add_8 rfl (lv_at hl 1 rfl) ?_
  refine va_iast hx hb hK hP hD hS 1 0 rfl rfl (by unfold vp_in; decide) dX9_add_9 (fun H locs hP hD hS => ?_)
  have hP : va_P (dC, dI) vwCl [(h, .inr (9, [.ref tk, .ref tp, .ref tn, .ref tu, .ref tl, .int 0, .int 0, .int 0, .int (-1), .int nt, .ref tb, .int 0, .ref ts, .ref tf, .ref tz, .ref tx, .ref th, .ref tw])), (tk, .inl (kI, 3002, .inl (upd fk (0 : Int32).toNatClampNeg 0))), (tp, .inl (kI, 3002, .inl fp)), (tn, .inl (kI, 3002, .inl fn)), (tl, .inl (kI, 3002, .inl fl))] H := hP
  have hD : va_D A [(h, .inr (9, [.ref tk, .ref tp, .ref tn, .ref tu, .ref tl, .int 0, .int 0, .int 0, .int (-1), .int nt, .ref tb, .int 0, .ref ts, .ref tf, .ref tz, .ref tx, .ref th, .ref tw])), (tk, .inl (kI, 3002, .inl (upd fk (0 : Int32).toNatClampNeg 0))), (tp, .inl (kI, 3002, .inl fp)), (tn, .inl (kI, 3002, .inl fn)), (tl, .inl (kI, 3002, .inl fl))] := hD
  obtain ⟨fk1, efk1⟩ : ∃ z : Nat → Int32, z = upd fk (0 : Int32).toNatClampNeg 0 := ⟨_, rfl⟩
  rw [← efk1] at hP hD
  refine lv_aload_n hx hb dX9_add_10 rfl (lv_at hl 0 rfl) ?_
  refine va_get (D := (dC, dI)) (ci := 9) (v := .ref tp) (C := RX9) (T := TX9) (N := 18) hx hb hts in_c_add_X9 hown hK hP 0 rfl rfl 1 (by decide) (hts (.fieldLink RX9 15 "OwnedPlaces$Text" "places" "[I") (wm_c_add 3 rfl)) (fun _ h9 => h9) rfl dX9_add_11 ?_
  refine lv_aload_n hx hb dX9_add_14 rfl (lv_at hl 0 rfl) ?_
  refine va_get (D := (dC, dI)) (ci := 9) (v := .int 0) (C := RX9) (T := TX9) (N := 18) hx hb hts in_c_add_X9 hown hK hP 0 rfl rfl 11 (by decide) (hts (.fieldLink RX9 92 "OwnedPlaces$Text" "total" "I") (wm_c_add 2 rfl)) (fun _ h9 => h9) rfl dX9_add_15 ?_
  refine lv_iload_n hx hb dX9_add_18 rfl (lv_at hl 2 rfl) ?_
  refine va_iast hx hb hK hP hD hS 2 0 rfl rfl (by unfold vp_in; decide) dX9_add_19 (fun H locs hP hD hS => ?_)
  have hP : va_P (dC, dI) vwCl [(h, .inr (9, [.ref tk, .ref tp, .ref tn, .ref tu, .ref tl, .int 0, .int 0, .int 0, .int (-1), .int nt, .ref tb, .int 0, .ref ts, .ref tf, .ref tz, .ref tx, .ref th, .ref tw])), (tk, .inl (kI, 3002, .inl fk1)), (tp, .inl (kI, 3002, .inl (upd fp (0 : Int32).toNatClampNeg 0))), (tn, .inl (kI, 3002, .inl fn)), (tl, .inl (kI, 3002, .inl fl))] H := hP
  have hD : va_D A [(h, .inr (9, [.ref tk, .ref tp, .ref tn, .ref tu, .ref tl, .int 0, .int 0, .int 0, .int (-1), .int nt, .ref tb, .int 0, .ref ts, .ref tf, .ref tz, .ref tx, .ref th, .ref tw])), (tk, .inl (kI, 3002, .inl fk1)), (tp, .inl (kI, 3002, .inl (upd fp (0 : Int32).toNatClampNeg 0))), (tn, .inl (kI, 3002, .inl fn)), (tl, .inl (kI, 3002, .inl fl))] := hD
  obtain ⟨fp1, efp1⟩ : ∃ z : Nat → Int32, z = upd fp (0 : Int32).toNatClampNeg 0 := ⟨_, rfl⟩
  rw [← efp1] at hP hD
  refine lv_aload_n hx hb dX9_add_20 rfl (lv_at hl 0 rfl) ?_
  refine va_get (D := (dC, dI)) (ci := 9) (v := .ref tn) (C := RX9) (T := TX9) (N := 18) hx hb hts in_c_add_X9 hown hK hP 0 rfl rfl 2 (by decide) (hts (.fieldLink RX9 18 "OwnedPlaces$Text" "names" "[I") (wm_c_add 4 rfl)) (fun _ h9 => h9) rfl dX9_add_21 ?_
  refine lv_aload_n hx hb dX9_add_24 rfl (lv_at hl 0 rfl) ?_
  refine va_get (D := (dC, dI)) (ci := 9) (v := .int 0) (C := RX9) (T := TX9) (N := 18) hx hb hts in_c_add_X9 hown hK hP 0 rfl rfl 11 (by decide) (hts (.fieldLink RX9 92 "OwnedPlaces$Text" "total" "I") (wm_c_add 2 rfl)) (fun _ h9 => h9) rfl dX9_add_25 ?_
  refine lv_iload_n hx hb dX9_add_28 rfl (lv_at hl 3 rfl) ?_
  refine va_iast hx hb hK hP hD hS 3 0 rfl rfl (by unfold vp_in; decide) dX9_add_29 (fun H locs hP hD hS => ?_)
  have hP : va_P (dC, dI) vwCl [(h, .inr (9, [.ref tk, .ref tp, .ref tn, .ref tu, .ref tl, .int 0, .int 0, .int 0, .int (-1), .int nt, .ref tb, .int 0, .ref ts, .ref tf, .ref tz, .ref tx, .ref th, .ref tw])), (tk, .inl (kI, 3002, .inl fk1)), (tp, .inl (kI, 3002, .inl fp1)), (tn, .inl (kI, 3002, .inl (upd fn (0 : Int32).toNatClampNeg 0))), (tl, .inl (kI, 3002, .inl fl))] H := hP
  have hD : va_D A [(h, .inr (9, [.ref tk, .ref tp, .ref tn, .ref tu, .ref tl, .int 0, .int 0, .int 0, .int (-1), .int nt, .ref tb, .int 0, .ref ts, .ref tf, .ref tz, .ref tx, .ref th, .ref tw])), (tk, .inl (kI, 3002, .inl fk1)), (tp, .inl (kI, 3002, .inl fp1)), (tn, .inl (kI, 3002, .inl (upd fn (0 : Int32).toNatClampNeg 0))), (tl, .inl (kI, 3002, .inl fl))] := hD
  obtain ⟨fn1, efn1⟩ : ∃ z : Nat → Int32, z = upd fn (0 : Int32).toNatClampNeg 0 := ⟨_, rfl⟩
  rw [← efn1] at hP hD
  refine lv_aload_n hx hb dX9_add_30 rfl (lv_at hl 0 rfl) ?_
  refine va_get (D := (dC, dI)) (ci := 9) (v := .ref tl) (C := RX9) (T := TX9) (N := 18) hx hb hts in_c_add_X9 hown hK hP 0 rfl rfl 4 (by decide) (hts (.fieldLink RX9 25 "OwnedPlaces$Text" "links" "[I") (wm_c_add 5 rfl)) (fun _ h9 => h9) rfl dX9_add_31 ?_
  refine lv_aload_n hx hb dX9_add_34 rfl (lv_at hl 0 rfl) ?_
  refine va_get (D := (dC, dI)) (ci := 9) (v := .int 0) (C := RX9) (T := TX9) (N := 18) hx hb hts in_c_add_X9 hown hK hP 0 rfl rfl 11 (by decide) (hts (.fieldLink RX9 92 "OwnedPlaces$Text" "total" "I") (wm_c_add 2 rfl)) (fun _ h9 => h9) rfl dX9_add_35 ?_
  refine lv_iconst (v := 0) hx hb dX9_add_38 (by decide) ?_
  refine va_iast hx hb hK hP hD hS 4 0 rfl rfl (by unfold vp_in; decide) dX9_add_39 (fun H locs hP hD hS => ?_)
  have hP : va_P (dC, dI) vwCl [(h, .inr (9, [.ref tk, .ref tp, .ref tn, .ref tu, .ref tl, .int 0, .int 0, .int 0, .int (-1), .int nt, .ref tb, .int 0, .ref ts, .ref tf, .ref tz, .ref tx, .ref th, .ref tw])), (tk, .inl (kI, 3002, .inl fk1)), (tp, .inl (kI, 3002, .inl fp1)), (tn, .inl (kI, 3002, .inl fn1)), (tl, .inl (kI, 3002, .inl (upd fl (0 : Int32).toNatClampNeg 0)))] H := hP
  have hD : va_D A [(h, .inr (9, [.ref tk, .ref tp, .ref tn, .ref tu, .ref tl, .int 0, .int 0, .int 0, .int (-1), .int nt, .ref tb, .int 0, .ref ts, .ref tf, .ref tz, .ref tx, .ref th, .ref tw])), (tk, .inl (kI, 3002, .inl fk1)), (tp, .inl (kI, 3002, .inl fp1)), (tn, .inl (kI, 3002, .inl fn1)), (tl, .inl (kI, 3002, .inl (upd fl (0 : Int32).toNatClampNeg 0)))] := hD
  obtain ⟨fl1, efl1⟩ : ∃ z : Nat → Int32, z = upd fl (0 : Int32).toNatClampNeg 0 := ⟨_, rfl⟩
  rw [← efl1] at hP hD
  refine lv_aload_n hx hb dX9_add_40 rfl (lv_at hl 0 rfl) ?_
  refine lv_dup hx hb dX9_add_41 rfl ?_
  refine va_get (D := (dC, dI)) (ci := 9) (v := .int 0) (C := RX9) (T := TX9) (N := 18) hx hb hts in_c_add_X9 hown hK hP 0 rfl rfl 11 (by decide) (hts (.fieldLink RX9 92 "OwnedPlaces$Text" "total" "I") (wm_c_add 2 rfl)) (fun _ h9 => h9) rfl dX9_add_42 ?_
  refine lv_iconst (v := 1) hx hb dX9_add_45 (by decide) ?_
  refine lv_iadd hx hb dX9_add_46 ?_
  refine lv_topi (fun f_1 ef_1 => ?_)
  obtain rfl : f_1 = 1 := ef_1.trans (by decide)
  refine va_put (D := (dC, dI)) (ci := 9) (v := .int 1) (ty := .int) (C := RX9) (T := TX9) (N := 18) hx hb hts in_c_add_X9 tyX9 tyX9_ok nmX9 hown hK hP hD hS 0 rfl rfl 11 (by decide) (hts (.fieldLink RX9 92 "OwnedPlaces$Text" "total" "I") (wm_c_add 2 rfl)) (fun _ h9 => h9) rfl (by decide +kernel) rfl rfl (Nat.le_of_ble_eq_true rfl) dX9_add_47 (fun H locs hP hD hS => ?_)
  have hP : va_P (dC, dI) vwCl [(h, .inr (9, [.ref tk, .ref tp, .ref tn, .ref tu, .ref tl, .int 0, .int 0, .int 0, .int (-1), .int nt, .ref tb, .int 1, .ref ts, .ref tf, .ref tz, .ref tx, .ref th, .ref tw])), (tk, .inl (kI, 3002, .inl fk1)), (tp, .inl (kI, 3002, .inl fp1)), (tn, .inl (kI, 3002, .inl fn1)), (tl, .inl (kI, 3002, .inl fl1))] H := hP
  have hD : va_D A [(h, .inr (9, [.ref tk, .ref tp, .ref tn, .ref tu, .ref tl, .int 0, .int 0, .int 0, .int (-1), .int nt, .ref tb, .int 1, .ref ts, .ref tf, .ref tz, .ref tx, .ref th, .ref tw])), (tk, .inl (kI, 3002, .inl fk1)), (tp, .inl (kI, 3002, .inl fp1)), (tn, .inl (kI, 3002, .inl fn1)), (tl, .inl (kI, 3002, .inl fl1))] := hD
  have hP9 := hP.sub (ws' := [(h, .inr (9, [.ref tk, .ref tp, .ref tn, .ref tu, .ref tl, .int 0, .int 0, .int 0, .int (-1), .int nt, .ref tb, .int 1, .ref ts, .ref tf, .ref tz, .ref tx, .ref th, .ref tw])), (tk, .inl (kI, 3002, .inl fk1)), (tp, .inl (kI, 3002, .inl fp1)), (tn, .inl (kI, 3002, .inl fn1)), (tl, .inl (kI, 3002, .inl fl1))]) [0, 1, 2, 3, 4] rfl
  have hD9 := hD.sub (ws' := [(h, .inr (9, [.ref tk, .ref tp, .ref tn, .ref tu, .ref tl, .int 0, .int 0, .int 0, .int (-1), .int nt, .ref tb, .int 1, .ref ts, .ref tf, .ref tz, .ref tx, .ref th, .ref tw])), (tk, .inl (kI, 3002, .inl fk1)), (tp, .inl (kI, 3002, .inl fp1)), (tn, .inl (kI, 3002, .inl fn1)), (tl, .inl (kI, 3002, .inl fl1))]) [0, 1, 2, 3, 4] (by decide) rfl
  have hK9 := hK.sub (tys' := [(kI, .int)]) [0] rfl
  exact W.vret hx hb hr (fun tS ht hW => ⟨⟨(), rfl, trivial, fk1, fp1, fn1, fl1, by rw [efk1]; rfl, by rw [efp1]; rfl, by rw [ht]; exact hP9, va_K.moved hW.alike hK9, hD9⟩, hS.F ht⟩) hS.2.2 dX9_add_50
def wf_c_kind : List Cond := [.code yX9_kind cX9_kind 1 (some .int), .fieldLink RX9 9 "OwnedPlaces$Text" "kinds" "[I", .fieldLink RX9 106 "OwnedPlaces$Text" "now" "I"]
def wp_c_kind : List Cond := wf_c_kind ++ (wsX90 ++ [])
theorem in_c_kind_X9 : ∀ w ∈ wsX90, w ∈ wp_c_kind := fun w h => List.mem_append_right _ (List.mem_append_left _ h)
theorem wg_c_kind : wf_c_kind.all goodWord = true := by decide +kernel
theorem wm_c_kind (k : Nat) {w : Cond} (h : wp_c_kind[k]? = some w) : w ∈ wp_c_kind := List.mem_of_getElem? h
set_option maxHeartbeats 4000000 in
set_option maxRecDepth 100000 in
theorem c_kind (l : Launch) (dC : Nat → ClassId) (dI : Nat → Nat → Nat) (h tk tp tn tu tl tb ts tf tz tx th tw : Nat) (nt ft pl : Int32) (kI : ClassId) (fk : Nat → Int32) (sz : Nat) (hf0 : fk 0 = 0) : Met l yX9_kind wp_c_kind ({ frames := 0, cells := 0, slots := 0, locals := 0 }) (va_Pc [.ref h] (fun U => U.heap.size = sz ∧ va_P (dC, dI) vwCl [(h, .inr (9, [.ref tk, .ref tp, .ref tn, .ref tu, .ref tl, .int 0, .int 0, .int ft, .int pl, .int nt, .ref tb, .int 1, .ref ts, .ref tf, .ref tz, .ref tx, .ref th, .ref tw])), (tk, .inl (kI, 3002, .inl fk))] U.heap ∧ va_K (dC, dI) vwCl [(kI, .int)] U ∧ va_D (fun _ => True) [(h, .inr (9, [.ref tk, .ref tp, .ref tn, .ref tu, .ref tl, .int 0, .int 0, .int ft, .int pl, .int nt, .ref tb, .int 1, .ref ts, .ref tf, .ref tz, .ref tx, .ref th, .ref tw])), (tk, .inl (kI, 3002, .inl fk))])) (va_Qi (fun (r : Int32) (_ : Unit) => r = 0) (fun (_ : Unit) (t : State) => va_P (dC, dI) vwCl [(h, .inr (9, [.ref tk, .ref tp, .ref tn, .ref tu, .ref tl, .int 0, .int 0, .int ft, .int pl, .int nt, .ref tb, .int 1, .ref ts, .ref tf, .ref tz, .ref tx, .ref th, .ref tw])), (tk, .inl (kI, 3002, .inl fk))] t.heap ∧ va_K (dC, dI) vwCl [(kI, .int)] t ∧ va_D (va_A [(h, .inr (9, [.ref tk, .ref tp, .ref tn, .ref tu, .ref tl, .int 0, .int 0, .int ft, .int pl, .int nt, .ref tb, .int 1, .ref ts, .ref tf, .ref tz, .ref tx, .ref th, .ref tw])), (tk, .inl (kI, 3002, .inl fk))] sz) [(h, .inr (9, [.ref tk, .ref tp, .ref tn, .ref tu, .ref tl, .int 0, .int 0, .int ft, .int pl, .int nt, .ref tb, .int 1, .ref ts, .ref tf, .ref tz, .ref tx, .ref th, .ref tw])), (tk, .inl (kI, 3002, .inl fk))]) (va_A [(h, .inr (9, [.ref tk, .ref tp, .ref tn, .ref tu, .ref tl, .int 0, .int 0, .int ft, .int pl, .int nt, .ref tb, .int 1, .ref ts, .ref tf, .ref tz, .ref tx, .ref th, .ref tw])), (tk, .inl (kI, 3002, .inl fk))] sz)) 0 0 (va_A [(h, .inr (9, [.ref tk, .ref tp, .ref tn, .ref tu, .ref tl, .int 0, .int 0, .int ft, .int pl, .int nt, .ref tb, .int 1, .ref ts, .ref tf, .ref tz, .ref tx, .ref th, .ref tw])), (tk, .inl (kI, 3002, .inl fk))] sz) := by
  refine Met.ofW (cc := cX9_kind) (maxL := 1) (ret := (some .int)) (by decide) rfl ?_
  intro p e s m args below meth c s₁ B hml hv
  obtain ⟨rfl, hsz, hP, hK, hD0⟩ := hv
  have hx := B.exec
  have hb := B.bytes
  have hr := B.returns
  have hts := atoms_spec (ws := wp_c_kind) B.pre
  have hown : s.vm.findClass RX9 = some m.cls := findClass_of_methodNamed B.named
  have hlocks := B.notSynchronized
  subst hsz
  have hD := hD0.self (sz := s.heap.size)
  generalize hAe : va_A [(h, .inr (9, [.ref tk, .ref tp, .ref tn, .ref tu, .ref tl, .int 0, .int 0, .int ft, .int pl, .int nt, .ref tb, .int 1, .ref ts, .ref tf, .ref tz, .ref tx, .ref th, .ref tw])), (tk, .inl (kI, 3002, .inl fk))] s.heap.size = A at hD ⊢
  have hA : ∀ q : Nat, s.heap.size ≤ q → A q := fun q h => by rw [← hAe]; exact Or.inr h
  have hS : va_S A s.heap s.heap [] := va_S.rf
  have hP : va_P (dC, dI) vwCl [(h, .inr (9, [.ref tk, .ref tp, .ref tn, .ref tu, .ref tl, .int 0, .int 0, .int ft, .int pl, .int nt, .ref tb, .int 1, .ref ts, .ref tf, .ref tz, .ref tx, .ref th, .ref tw])), (tk, .inl (kI, 3002, .inl fk))] s.heap := hP
  have hl := lv_entry ([.ref h]) (n := 1) (Nat.le_of_ble_eq_true rfl)
  rw [lg_entry_eq]
  generalize (lg_sl ([.ref h]) ++ List.replicate (1 - (lg_sl ([.ref h])).length) Slot.unset).toArray = ls at hl ⊢
  have hl : lv_has ls 1 [(0, .ref h)] := hl
  refine lv_aload_n hx hb dX9_kind_0 rfl (lv_at hl 0 rfl) ?_
  refine va_get (D := (dC, dI)) (ci := 9) (v := .ref tk) (C := RX9) (T := TX9) (N := 18) hx hb hts in_c_kind_X9 hown hK hP 0 rfl rfl 0 (by decide) (hts (.fieldLink RX9 9 "OwnedPlaces$Text" "kinds" "[I") (wm_c_kind 1 rfl)) (fun _ h9 => h9) rfl dX9_kind_1 ?_
  refine lv_aload_n hx hb dX9_kind_4 rfl (lv_at hl 0 rfl) ?_
  refine va_get (D := (dC, dI)) (ci := 9) (v := .int 0) (C := RX9) (T := TX9) (N := 18) hx hb hts in_c_kind_X9 hown hK hP 0 rfl rfl 6 (by decide) (hts (.fieldLink RX9 106 "OwnedPlaces$Text" "now" "I") (wm_c_kind 2 rfl)) (fun _ h9 => h9) rfl dX9_kind_5 ?_
  refine va_iald hx hb hK hP 1 0 rfl rfl (by unfold vp_in; decide) dX9_kind_8 ?_
  refine lv_topi (fun v_1 ev_1 => ?_)
  obtain rfl : v_1 = 0 := ev_1.trans (by rw [show (0 : Int32).toNatClampNeg = 0 from rfl]; exact hf0)
  have hP9 := hP.sub (ws' := [(h, .inr (9, [.ref tk, .ref tp, .ref tn, .ref tu, .ref tl, .int 0, .int 0, .int ft, .int pl, .int nt, .ref tb, .int 1, .ref ts, .ref tf, .ref tz, .ref tx, .ref th, .ref tw])), (tk, .inl (kI, 3002, .inl fk))]) [0, 1] rfl
  have hD9 := hD.sub (ws' := [(h, .inr (9, [.ref tk, .ref tp, .ref tn, .ref tu, .ref tl, .int 0, .int 0, .int ft, .int pl, .int nt, .ref tb, .int 1, .ref ts, .ref tf, .ref tz, .ref tx, .ref th, .ref tw])), (tk, .inl (kI, 3002, .inl fk))]) [0, 1] (by decide) rfl
  have hK9 := hK.sub (tys' := [(kI, .int)]) [0] rfl
  exact W.iret (v := 0) hx hb hr (fun tS ht hW => ⟨⟨0, (), rfl, rfl, by rw [ht]; exact hP9, va_K.moved hW.alike hK9, hD9⟩, hS.F ht⟩) hS.2.2 dX9_kind_9
def wf_c_where : List Cond := [.code yX9_where cX9_where 1 (some .int), .fieldLink RX9 15 "OwnedPlaces$Text" "places" "[I", .fieldLink RX9 106 "OwnedPlaces$Text" "now" "I"]
def wp_c_where : List Cond := wf_c_where ++ (wsX90 ++ [])
theorem in_c_where_X9 : ∀ w ∈ wsX90, w ∈ wp_c_where := fun w h => List.mem_append_right _ (List.mem_append_left _ h)
theorem wg_c_where : wf_c_where.all goodWord = true := by decide +kernel
theorem wm_c_where (k : Nat) {w : Cond} (h : wp_c_where[k]? = some w) : w ∈ wp_c_where := List.mem_of_getElem? h
set_option maxHeartbeats 4000000 in
set_option maxRecDepth 100000 in
theorem c_where (l : Launch) (dC : Nat → ClassId) (dI : Nat → Nat → Nat) (h tk tp tn tu tl tb ts tf tz tx th tw : Nat) (nt ft pl : Int32) (kI : ClassId) (fp : Nat → Int32) (sz : Nat) (hf0 : fp 0 = 0) : Met l yX9_where wp_c_where ({ frames := 0, cells := 0, slots := 0, locals := 0 }) (va_Pc [.ref h] (fun U => U.heap.size = sz ∧ va_P (dC, dI) vwCl [(h, .inr (9, [.ref tk, .ref tp, .ref tn, .ref tu, .ref tl, .int 0, .int 0, .int ft, .int pl, .int nt, .ref tb, .int 1, .ref ts, .ref tf, .ref tz, .ref tx, .ref th, .ref tw])), (tp, .inl (kI, 3002, .inl fp))] U.heap ∧ va_K (dC, dI) vwCl [(kI, .int)] U ∧ va_D (fun _ => True) [(h, .inr (9, [.ref tk, .ref tp, .ref tn, .ref tu, .ref tl, .int 0, .int 0, .int ft, .int pl, .int nt, .ref tb, .int 1, .ref ts, .ref tf, .ref tz, .ref tx, .ref th, .ref tw])), (tp, .inl (kI, 3002, .inl fp))])) (va_Qi (fun (r : Int32) (_ : Unit) => r = 0) (fun (_ : Unit) (t : State) => va_P (dC, dI) vwCl [(h, .inr (9, [.ref tk, .ref tp, .ref tn, .ref tu, .ref tl, .int 0, .int 0, .int ft, .int pl, .int nt, .ref tb, .int 1, .ref ts, .ref tf, .ref tz, .ref tx, .ref th, .ref tw])), (tp, .inl (kI, 3002, .inl fp))] t.heap ∧ va_K (dC, dI) vwCl [(kI, .int)] t ∧ va_D (va_A [(h, .inr (9, [.ref tk, .ref tp, .ref tn, .ref tu, .ref tl, .int 0, .int 0, .int ft, .int pl, .int nt, .ref tb, .int 1, .ref ts, .ref tf, .ref tz, .ref tx, .ref th, .ref tw])), (tp, .inl (kI, 3002, .inl fp))] sz) [(h, .inr (9, [.ref tk, .ref tp, .ref tn, .ref tu, .ref tl, .int 0, .int 0, .int ft, .int pl, .int nt, .ref tb, .int 1, .ref ts, .ref tf, .ref tz, .ref tx, .ref th, .ref tw])), (tp, .inl (kI, 3002, .inl fp))]) (va_A [(h, .inr (9, [.ref tk, .ref tp, .ref tn, .ref tu, .ref tl, .int 0, .int 0, .int ft, .int pl, .int nt, .ref tb, .int 1, .ref ts, .ref tf, .ref tz, .ref tx, .ref th, .ref tw])), (tp, .inl (kI, 3002, .inl fp))] sz)) 0 0 (va_A [(h, .inr (9, [.ref tk, .ref tp, .ref tn, .ref tu, .ref tl, .int 0, .int 0, .int ft, .int pl, .int nt, .ref tb, .int 1, .ref ts, .ref tf, .ref tz, .ref tx, .ref th, .ref tw])), (tp, .inl (kI, 3002, .inl fp))] sz) := by
  refine Met.ofW (cc := cX9_where) (maxL := 1) (ret := (some .int)) (by decide) rfl ?_
  intro p e s m args below meth c s₁ B hml hv
  obtain ⟨rfl, hsz, hP, hK, hD0⟩ := hv
  have hx := B.exec
  have hb := B.bytes
  have hr := B.returns
  have hts := atoms_spec (ws := wp_c_where) B.pre
  have hown : s.vm.findClass RX9 = some m.cls := findClass_of_methodNamed B.named
  have hlocks := B.notSynchronized
  subst hsz
  have hD := hD0.self (sz := s.heap.size)
  generalize hAe : va_A [(h, .inr (9, [.ref tk, .ref tp, .ref tn, .ref tu, .ref tl, .int 0, .int 0, .int ft, .int pl, .int nt, .ref tb, .int 1, .ref ts, .ref tf, .ref tz, .ref tx, .ref th, .ref tw])), (tp, .inl (kI, 3002, .inl fp))] s.heap.size = A at hD ⊢
  have hA : ∀ q : Nat, s.heap.size ≤ q → A q := fun q h => by rw [← hAe]; exact Or.inr h
  have hS : va_S A s.heap s.heap [] := va_S.rf
  have hP : va_P (dC, dI) vwCl [(h, .inr (9, [.ref tk, .ref tp, .ref tn, .ref tu, .ref tl, .int 0, .int 0, .int ft, .int pl, .int nt, .ref tb, .int 1, .ref ts, .ref tf, .ref tz, .ref tx, .ref th, .ref tw])), (tp, .inl (kI, 3002, .inl fp))] s.heap := hP
  have hl := lv_entry ([.ref h]) (n := 1) (Nat.le_of_ble_eq_true rfl)
  rw [lg_entry_eq]
  generalize (lg_sl ([.ref h]) ++ List.replicate (1 - (lg_sl ([.ref h])).length) Slot.unset).toArray = ls at hl ⊢
  have hl : lv_has ls 1 [(0, .ref h)] := hl
  refine lv_aload_n hx hb dX9_where_0 rfl (lv_at hl 0 rfl) ?_
  refine va_get (D := (dC, dI)) (ci := 9) (v := .ref tp) (C := RX9) (T := TX9) (N := 18) hx hb hts in_c_where_X9 hown hK hP 0 rfl rfl 1 (by decide) (hts (.fieldLink RX9 15 "OwnedPlaces$Text" "places" "[I") (wm_c_where 1 rfl)) (fun _ h9 => h9) rfl dX9_where_1 ?_
  refine lv_aload_n hx hb dX9_where_4 rfl (lv_at hl 0 rfl) ?_
  refine va_get (D := (dC, dI)) (ci := 9) (v := .int 0) (C := RX9) (T := TX9) (N := 18) hx hb hts in_c_where_X9 hown hK hP 0 rfl rfl 6 (by decide) (hts (.fieldLink RX9 106 "OwnedPlaces$Text" "now" "I") (wm_c_where 2 rfl)) (fun _ h9 => h9) rfl dX9_where_5 ?_
  refine va_iald hx hb hK hP 1 0 rfl rfl (by unfold vp_in; decide) dX9_where_8 ?_
  refine lv_topi (fun v_1 ev_1 => ?_)
  obtain rfl : v_1 = 0 := ev_1.trans (by rw [show (0 : Int32).toNatClampNeg = 0 from rfl]; exact hf0)
  have hP9 := hP.sub (ws' := [(h, .inr (9, [.ref tk, .ref tp, .ref tn, .ref tu, .ref tl, .int 0, .int 0, .int ft, .int pl, .int nt, .ref tb, .int 1, .ref ts, .ref tf, .ref tz, .ref tx, .ref th, .ref tw])), (tp, .inl (kI, 3002, .inl fp))]) [0, 1] rfl
  have hD9 := hD.sub (ws' := [(h, .inr (9, [.ref tk, .ref tp, .ref tn, .ref tu, .ref tl, .int 0, .int 0, .int ft, .int pl, .int nt, .ref tb, .int 1, .ref ts, .ref tf, .ref tz, .ref tx, .ref th, .ref tw])), (tp, .inl (kI, 3002, .inl fp))]) [0, 1] (by decide) rfl
  have hK9 := hK.sub (tys' := [(kI, .int)]) [0] rfl
  exact W.iret (v := 0) hx hb hr (fun tS ht hW => ⟨⟨0, (), rfl, rfl, by rw [ht]; exact hP9, va_K.moved hW.alike hK9, hD9⟩, hS.F ht⟩) hS.2.2 dX9_where_9
def wf_c_step : List Cond := [.code yX9_step cX9_step 2 none, .fieldLink RX9 106 "OwnedPlaces$Text" "now" "I", .fieldLink RX9 92 "OwnedPlaces$Text" "total" "I", .methodLink RX9 109 Lib.Math.min.name, .static Lib.Math.min.name, .initialized "java/lang/Math", .code Lib.Math.min.name Lib.Math.min.code 2 (some .int)]
def wp_c_step : List Cond := wf_c_step ++ (wsX90 ++ [])
theorem in_c_step_X9 : ∀ w ∈ wsX90, w ∈ wp_c_step := fun w h => List.mem_append_right _ (List.mem_append_left _ h)
theorem wg_c_step : wf_c_step.all goodWord = true := by decide +kernel
theorem wm_c_step (k : Nat) {w : Cond} (h : wp_c_step[k]? = some w) : w ∈ wp_c_step := List.mem_of_getElem? h
set_option maxHeartbeats 4000000 in
set_option maxRecDepth 100000 in
theorem c_step (l : Launch) (dC : Nat → ClassId) (dI : Nat → Nat → Nat) (h tk tp tn tu tl tb ts tf tz tx th tw : Nat) (nt : Int32) (sz : Nat) : Met l yX9_step wp_c_step ({ frames := 1, cells := 0, slots := 0, locals := 14 }) (va_Pc [.ref h, .int 3002] (fun U => U.heap.size = sz ∧ va_P (dC, dI) vwCl [(h, .inr (9, [.ref tk, .ref tp, .ref tn, .ref tu, .ref tl, .int 0, .int 0, .int 0, .int (-1), .int nt, .ref tb, .int 1, .ref ts, .ref tf, .ref tz, .ref tx, .ref th, .ref tw]))] U.heap ∧ va_K (dC, dI) vwCl [] U ∧ va_D (fun _ => True) [(h, .inr (9, [.ref tk, .ref tp, .ref tn, .ref tu, .ref tl, .int 0, .int 0, .int 0, .int (-1), .int nt, .ref tb, .int 1, .ref ts, .ref tf, .ref tz, .ref tx, .ref th, .ref tw]))])) (va_Qv (fun _ : Unit => True) (fun (_ : Unit) (t : State) => va_P (dC, dI) vwCl [(h, .inr (9, [.ref tk, .ref tp, .ref tn, .ref tu, .ref tl, .int 0, .int 0, .int 0, .int (-1), .int nt, .ref tb, .int 1, .ref ts, .ref tf, .ref tz, .ref tx, .ref th, .ref tw]))] t.heap ∧ va_K (dC, dI) vwCl [] t ∧ va_D (va_A [(h, .inr (9, [.ref tk, .ref tp, .ref tn, .ref tu, .ref tl, .int 0, .int 0, .int 0, .int (-1), .int nt, .ref tb, .int 1, .ref ts, .ref tf, .ref tz, .ref tx, .ref th, .ref tw]))] sz) [(h, .inr (9, [.ref tk, .ref tp, .ref tn, .ref tu, .ref tl, .int 0, .int 0, .int 0, .int (-1), .int nt, .ref tb, .int 1, .ref ts, .ref tf, .ref tz, .ref tx, .ref th, .ref tw]))]) (va_A [(h, .inr (9, [.ref tk, .ref tp, .ref tn, .ref tu, .ref tl, .int 0, .int 0, .int 0, .int (-1), .int nt, .ref tb, .int 1, .ref ts, .ref tf, .ref tz, .ref tx, .ref th, .ref tw]))] sz)) 0 0 (va_A [(h, .inr (9, [.ref tk, .ref tp, .ref tn, .ref tu, .ref tl, .int 0, .int 0, .int 0, .int (-1), .int nt, .ref tb, .int 1, .ref ts, .ref tf, .ref tz, .ref tx, .ref th, .ref tw]))] sz) := by
  refine Met.ofW (cc := cX9_step) (maxL := 2) (ret := none) (by decide) rfl ?_
  intro p e s m args below meth c s₁ B hml hv
  obtain ⟨rfl, hsz, hP, hK, hD0⟩ := hv
  have hx := B.exec
  have hb := B.bytes
  have hr := B.returns
  have hts := atoms_spec (ws := wp_c_step) B.pre
  have hown : s.vm.findClass RX9 = some m.cls := findClass_of_methodNamed B.named
  have hlocks := B.notSynchronized
  subst hsz
  have hD := hD0.self (sz := s.heap.size)
  generalize hAe : va_A [(h, .inr (9, [.ref tk, .ref tp, .ref tn, .ref tu, .ref tl, .int 0, .int 0, .int 0, .int (-1), .int nt, .ref tb, .int 1, .ref ts, .ref tf, .ref tz, .ref tx, .ref th, .ref tw]))] s.heap.size = A at hD ⊢
  have hA : ∀ q : Nat, s.heap.size ≤ q → A q := fun q h => by rw [← hAe]; exact Or.inr h
  have hS : va_S A s.heap s.heap [] := va_S.rf
  have hP : va_P (dC, dI) vwCl [(h, .inr (9, [.ref tk, .ref tp, .ref tn, .ref tu, .ref tl, .int 0, .int 0, .int 0, .int (-1), .int nt, .ref tb, .int 1, .ref ts, .ref tf, .ref tz, .ref tx, .ref th, .ref tw]))] s.heap := hP
  have hl := lv_entry ([.ref h, .int 3002]) (n := 2) (Nat.le_of_ble_eq_true rfl)
  rw [lg_entry_eq]
  generalize (lg_sl ([.ref h, .int 3002]) ++ List.replicate (2 - (lg_sl ([.ref h, .int 3002])).length) Slot.unset).toArray = ls at hl ⊢
  have hl : lv_has ls 2 [(0, .ref h), (1, .int 3002)] := hl
  refine lv_aload_n hx hb dX9_step_0 rfl (lv_at hl 0 rfl) ?_
  refine lv_aload_n hx hb dX9_step_1 rfl (lv_at hl 0 rfl) ?_
  refine va_get (D := (dC, dI)) (ci := 9) (v := .int 0) (C := RX9) (T := TX9) (N := 18) hx hb hts in_c_step_X9 hown hK hP 0 rfl rfl 6 (by decide) (hts (.fieldLink RX9 106 "OwnedPlaces$Text" "now" "I") (wm_c_step 1 rfl)) (fun _ h9 => h9) rfl dX9_step_2 ?_
  refine lv_iload_n hx hb dX9_step_5 rfl (lv_at hl 1 rfl) ?_
  refine lv_iadd hx hb dX9_step_6 ?_
  refine lv_topi (fun f_1 ef_1 => ?_)
  obtain rfl : f_1 = 3002 := ef_1.trans (by decide)
  refine lv_aload_n hx hb dX9_step_7 rfl (lv_at hl 0 rfl) ?_
  refine va_get (D := (dC, dI)) (ci := 9) (v := .int 1) (C := RX9) (T := TX9) (N := 18) hx hb hts in_c_step_X9 hown hK hP 0 rfl rfl 11 (by decide) (hts (.fieldLink RX9 92 "OwnedPlaces$Text" "total" "I") (wm_c_step 2 rfl)) (fun _ h9 => h9) rfl dX9_step_8 ?_
  refine lv_iconst (v := 1) hx hb dX9_step_11 (by decide) ?_
  refine lv_isub hx hb dX9_step_12 ?_
  refine lv_topi (fun f_2 ef_2 => ?_)
  obtain rfl : f_2 = 0 := ef_2.trans (by decide)
  refine va_mmin hx hb (by rw [hml]; exact hl.1.symm) hown (hts (.methodLink RX9 109 Lib.Math.min.name) (wm_c_step 3 rfl)) (hts (.static Lib.Math.min.name) (wm_c_step 4 rfl)) (hts (.initialized "java/lang/Math") (wm_c_step 5 rfl)) (hts (.code Lib.Math.min.name Lib.Math.min.code 2 (some .int)) (wm_c_step 6 rfl)) (Nat.le_of_ble_eq_true rfl) (Nat.le_of_ble_eq_true rfl) (Nat.zero_le _) (Nat.zero_le _) dX9_step_13 ?_
  refine lv_topi (fun f_3 ef_3 => ?_)
  obtain rfl : f_3 = 0 := ef_3.trans (by decide)
  refine va_put (D := (dC, dI)) (ci := 9) (v := .int 0) (ty := .int) (C := RX9) (T := TX9) (N := 18) hx hb hts in_c_step_X9 tyX9 tyX9_ok nmX9 hown hK hP hD hS 0 rfl rfl 6 (by decide) (hts (.fieldLink RX9 106 "OwnedPlaces$Text" "now" "I") (wm_c_step 1 rfl)) (fun _ h9 => h9) rfl (by decide +kernel) rfl rfl (Nat.le_of_ble_eq_true rfl) dX9_step_16 (fun H locs hP hD hS => ?_)
  have hP : va_P (dC, dI) vwCl [(h, .inr (9, [.ref tk, .ref tp, .ref tn, .ref tu, .ref tl, .int 0, .int 0, .int 0, .int (-1), .int nt, .ref tb, .int 1, .ref ts, .ref tf, .ref tz, .ref tx, .ref th, .ref tw]))] H := hP
  have hD : va_D A [(h, .inr (9, [.ref tk, .ref tp, .ref tn, .ref tu, .ref tl, .int 0, .int 0, .int 0, .int (-1), .int nt, .ref tb, .int 1, .ref ts, .ref tf, .ref tz, .ref tx, .ref th, .ref tw]))] := hD
  have hP9 := hP.sub (ws' := [(h, .inr (9, [.ref tk, .ref tp, .ref tn, .ref tu, .ref tl, .int 0, .int 0, .int 0, .int (-1), .int nt, .ref tb, .int 1, .ref ts, .ref tf, .ref tz, .ref tx, .ref th, .ref tw]))]) [0] rfl
  have hD9 := hD.sub (ws' := [(h, .inr (9, [.ref tk, .ref tp, .ref tn, .ref tu, .ref tl, .int 0, .int 0, .int 0, .int (-1), .int nt, .ref tb, .int 1, .ref ts, .ref tf, .ref tz, .ref tx, .ref th, .ref tw]))]) [0] (by decide) rfl
  have hK9 := hK.sub (tys' := []) [] rfl
  exact W.vret hx hb hr (fun tS ht hW => ⟨⟨(), rfl, trivial, by rw [ht]; exact hP9, va_K.moved hW.alike hK9, hD9⟩, hS.F ht⟩) hS.2.2 dX9_step_19
def wf_c_fail : List Cond := [.code yX9_fail cX9_fail 3 none, .fieldLink RX9 95 "OwnedPlaces$Text" "fault" "I", .fieldLink RX9 28 "OwnedPlaces$Text" "place" "I", .fieldLink RX9 92 "OwnedPlaces$Text" "total" "I", .fieldLink RX9 106 "OwnedPlaces$Text" "now" "I"]
def wp_c_fail : List Cond := wf_c_fail ++ (wsX90 ++ [])
theorem in_c_fail_X9 : ∀ w ∈ wsX90, w ∈ wp_c_fail := fun w h => List.mem_append_right _ (List.mem_append_left _ h)
theorem wg_c_fail : wf_c_fail.all goodWord = true := by decide +kernel
theorem wm_c_fail (k : Nat) {w : Cond} (h : wp_c_fail[k]? = some w) : w ∈ wp_c_fail := List.mem_of_getElem? h
set_option maxHeartbeats 4000000 in
set_option maxRecDepth 100000 in
theorem c_fail (l : Launch) (dC : Nat → ClassId) (dI : Nat → Nat → Nat) (h tk tp tn tu tl tb ts tf tz tx th tw : Nat) (nt : Int32) (sz : Nat) : Met l yX9_fail wp_c_fail ({ frames := 0, cells := 0, slots := 0, locals := 0 }) (va_Pc [.ref h, .int 3, .int 0] (fun U => U.heap.size = sz ∧ va_P (dC, dI) vwCl [(h, .inr (9, [.ref tk, .ref tp, .ref tn, .ref tu, .ref tl, .int 0, .int 0, .int 0, .int (-1), .int nt, .ref tb, .int 1, .ref ts, .ref tf, .ref tz, .ref tx, .ref th, .ref tw]))] U.heap ∧ va_K (dC, dI) vwCl [] U ∧ va_D (fun _ => True) [(h, .inr (9, [.ref tk, .ref tp, .ref tn, .ref tu, .ref tl, .int 0, .int 0, .int 0, .int (-1), .int nt, .ref tb, .int 1, .ref ts, .ref tf, .ref tz, .ref tx, .ref th, .ref tw]))])) (va_Qv (fun _ : Unit => True) (fun (_ : Unit) (t : State) => va_P (dC, dI) vwCl [(h, .inr (9, [.ref tk, .ref tp, .ref tn, .ref tu, .ref tl, .int 0, .int 0, .int 3, .int 0, .int nt, .ref tb, .int 1, .ref ts, .ref tf, .ref tz, .ref tx, .ref th, .ref tw]))] t.heap ∧ va_K (dC, dI) vwCl [] t ∧ va_D (va_A [(h, .inr (9, [.ref tk, .ref tp, .ref tn, .ref tu, .ref tl, .int 0, .int 0, .int 0, .int (-1), .int nt, .ref tb, .int 1, .ref ts, .ref tf, .ref tz, .ref tx, .ref th, .ref tw]))] sz) [(h, .inr (9, [.ref tk, .ref tp, .ref tn, .ref tu, .ref tl, .int 0, .int 0, .int 3, .int 0, .int nt, .ref tb, .int 1, .ref ts, .ref tf, .ref tz, .ref tx, .ref th, .ref tw]))]) (va_A [(h, .inr (9, [.ref tk, .ref tp, .ref tn, .ref tu, .ref tl, .int 0, .int 0, .int 0, .int (-1), .int nt, .ref tb, .int 1, .ref ts, .ref tf, .ref tz, .ref tx, .ref th, .ref tw]))] sz)) 0 0 (va_A [(h, .inr (9, [.ref tk, .ref tp, .ref tn, .ref tu, .ref tl, .int 0, .int 0, .int 0, .int (-1), .int nt, .ref tb, .int 1, .ref ts, .ref tf, .ref tz, .ref tx, .ref th, .ref tw]))] sz) := by
  refine Met.ofW (cc := cX9_fail) (maxL := 3) (ret := none) (by decide) rfl ?_
  intro p e s m args below meth c s₁ B hml hv
  obtain ⟨rfl, hsz, hP, hK, hD0⟩ := hv
  have hx := B.exec
  have hb := B.bytes
  have hr := B.returns
  have hts := atoms_spec (ws := wp_c_fail) B.pre
  have hown : s.vm.findClass RX9 = some m.cls := findClass_of_methodNamed B.named
  have hlocks := B.notSynchronized
  subst hsz
  have hD := hD0.self (sz := s.heap.size)
  generalize hAe : va_A [(h, .inr (9, [.ref tk, .ref tp, .ref tn, .ref tu, .ref tl, .int 0, .int 0, .int 0, .int (-1), .int nt, .ref tb, .int 1, .ref ts, .ref tf, .ref tz, .ref tx, .ref th, .ref tw]))] s.heap.size = A at hD ⊢
  have hA : ∀ q : Nat, s.heap.size ≤ q → A q := fun q h => by rw [← hAe]; exact Or.inr h
  have hS : va_S A s.heap s.heap [] := va_S.rf
  have hP : va_P (dC, dI) vwCl [(h, .inr (9, [.ref tk, .ref tp, .ref tn, .ref tu, .ref tl, .int 0, .int 0, .int 0, .int (-1), .int nt, .ref tb, .int 1, .ref ts, .ref tf, .ref tz, .ref tx, .ref th, .ref tw]))] s.heap := hP
  have hl := lv_entry ([.ref h, .int 3, .int 0]) (n := 3) (Nat.le_of_ble_eq_true rfl)
  rw [lg_entry_eq]
  generalize (lg_sl ([.ref h, .int 3, .int 0]) ++ List.replicate (3 - (lg_sl ([.ref h, .int 3, .int 0])).length) Slot.unset).toArray = ls at hl ⊢
  have hl : lv_has ls 3 [(0, .ref h), (1, .int 3), (2, .int 0)] := hl
  refine lv_aload_n hx hb dX9_fail_0 rfl (lv_at hl 0 rfl) ?_
  refine va_get (D := (dC, dI)) (ci := 9) (v := .int 0) (C := RX9) (T := TX9) (N := 18) hx hb hts in_c_fail_X9 hown hK hP 0 rfl rfl 7 (by decide) (hts (.fieldLink RX9 95 "OwnedPlaces$Text" "fault" "I") (wm_c_fail 1 rfl)) (fun _ h9 => h9) rfl dX9_fail_1 ?_
  refine lv_if_ne (tgt := 17) hx hb dX9_fail_4 (by decide) (fun c_1 => absurd c_1 (by decide)) (fun _ => ?_)
  refine lv_aload_n hx hb dX9_fail_7 rfl (lv_at hl 0 rfl) ?_
  refine lv_iload_n hx hb dX9_fail_8 rfl (lv_at hl 1 rfl) ?_
  refine va_put (D := (dC, dI)) (ci := 9) (v := .int 3) (ty := .int) (C := RX9) (T := TX9) (N := 18) hx hb hts in_c_fail_X9 tyX9 tyX9_ok nmX9 hown hK hP hD hS 0 rfl rfl 7 (by decide) (hts (.fieldLink RX9 95 "OwnedPlaces$Text" "fault" "I") (wm_c_fail 1 rfl)) (fun _ h9 => h9) rfl (by decide +kernel) rfl rfl (Nat.le_of_ble_eq_true rfl) dX9_fail_9 (fun H locs hP hD hS => ?_)
  have hP : va_P (dC, dI) vwCl [(h, .inr (9, [.ref tk, .ref tp, .ref tn, .ref tu, .ref tl, .int 0, .int 0, .int 3, .int (-1), .int nt, .ref tb, .int 1, .ref ts, .ref tf, .ref tz, .ref tx, .ref th, .ref tw]))] H := hP
  have hD : va_D A [(h, .inr (9, [.ref tk, .ref tp, .ref tn, .ref tu, .ref tl, .int 0, .int 0, .int 3, .int (-1), .int nt, .ref tb, .int 1, .ref ts, .ref tf, .ref tz, .ref tx, .ref th, .ref tw]))] := hD
  refine lv_aload_n hx hb dX9_fail_12 rfl (lv_at hl 0 rfl) ?_
  refine lv_iload_n hx hb dX9_fail_13 rfl (lv_at hl 2 rfl) ?_
  refine va_put (D := (dC, dI)) (ci := 9) (v := .int 0) (ty := .int) (C := RX9) (T := TX9) (N := 18) hx hb hts in_c_fail_X9 tyX9 tyX9_ok nmX9 hown hK hP hD hS 0 rfl rfl 8 (by decide) (hts (.fieldLink RX9 28 "OwnedPlaces$Text" "place" "I") (wm_c_fail 2 rfl)) (fun _ h9 => h9) rfl (by decide +kernel) rfl rfl (Nat.le_of_ble_eq_true rfl) dX9_fail_14 (fun H locs hP hD hS => ?_)
  have hP : va_P (dC, dI) vwCl [(h, .inr (9, [.ref tk, .ref tp, .ref tn, .ref tu, .ref tl, .int 0, .int 0, .int 3, .int 0, .int nt, .ref tb, .int 1, .ref ts, .ref tf, .ref tz, .ref tx, .ref th, .ref tw]))] H := hP
  have hD : va_D A [(h, .inr (9, [.ref tk, .ref tp, .ref tn, .ref tu, .ref tl, .int 0, .int 0, .int 3, .int 0, .int nt, .ref tb, .int 1, .ref ts, .ref tf, .ref tz, .ref tx, .ref th, .ref tw]))] := hD
  refine lv_aload_n hx hb dX9_fail_17 rfl (lv_at hl 0 rfl) ?_
  refine lv_aload_n hx hb dX9_fail_18 rfl (lv_at hl 0 rfl) ?_
  refine va_get (D := (dC, dI)) (ci := 9) (v := .int 1) (C := RX9) (T := TX9) (N := 18) hx hb hts in_c_fail_X9 hown hK hP 0 rfl rfl 11 (by decide) (hts (.fieldLink RX9 92 "OwnedPlaces$Text" "total" "I") (wm_c_fail 3 rfl)) (fun _ h9 => h9) rfl dX9_fail_19 ?_
  refine lv_iconst (v := 1) hx hb dX9_fail_22 (by decide) ?_
  refine lv_isub hx hb dX9_fail_23 ?_
  refine lv_topi (fun f_2 ef_2 => ?_)
  obtain rfl : f_2 = 0 := ef_2.trans (by decide)
  refine va_put (D := (dC, dI)) (ci := 9) (v := .int 0) (ty := .int) (C := RX9) (T := TX9) (N := 18) hx hb hts in_c_fail_X9 tyX9 tyX9_ok nmX9 hown hK hP hD hS 0 rfl rfl 6 (by decide) (hts (.fieldLink RX9 106 "OwnedPlaces$Text" "now" "I") (wm_c_fail 4 rfl)) (fun _ h9 => h9) rfl (by decide +kernel) rfl rfl (Nat.le_of_ble_eq_true rfl) dX9_fail_24 (fun H locs hP hD hS => ?_)
  have hP : va_P (dC, dI) vwCl [(h, .inr (9, [.ref tk, .ref tp, .ref tn, .ref tu, .ref tl, .int 0, .int 0, .int 3, .int 0, .int nt, .ref tb, .int 1, .ref ts, .ref tf, .ref tz, .ref tx, .ref th, .ref tw]))] H := hP
  have hD : va_D A [(h, .inr (9, [.ref tk, .ref tp, .ref tn, .ref tu, .ref tl, .int 0, .int 0, .int 3, .int 0, .int nt, .ref tb, .int 1, .ref ts, .ref tf, .ref tz, .ref tx, .ref th, .ref tw]))] := hD
  have hP9 := hP.sub (ws' := [(h, .inr (9, [.ref tk, .ref tp, .ref tn, .ref tu, .ref tl, .int 0, .int 0, .int 3, .int 0, .int nt, .ref tb, .int 1, .ref ts, .ref tf, .ref tz, .ref tx, .ref th, .ref tw]))]) [0] rfl
  have hD9 := hD.sub (ws' := [(h, .inr (9, [.ref tk, .ref tp, .ref tn, .ref tu, .ref tl, .int 0, .int 0, .int 3, .int 0, .int nt, .ref tb, .int 1, .ref ts, .ref tf, .ref tz, .ref tx, .ref th, .ref tw]))]) [0] (by decide) rfl
  have hK9 := hK.sub (tys' := []) [] rfl
  exact W.vret hx hb hr (fun tS ht hW => ⟨⟨(), rfl, trivial, by rw [ht]; exact hP9, va_K.moved hW.alike hK9, hD9⟩, hS.F ht⟩) hS.2.2 dX9_fail_27
def wf_c_read : List Cond := [.code yX9_read cX9_read 4 none, .fieldLink RX9 78 "OwnedPlaces$Text" "wordHeads" "[I", .fieldLink RX9 48 "OwnedPlaces$Text" "heads" "[I", .methodLink RX9 83 arraycopyName, .native arraycopyName, .static arraycopyName, .initialized "java/lang/System", .fieldLink RX9 89 "OwnedPlaces$Text" "nameTotal" "I", .fieldLink RX9 92 "OwnedPlaces$Text" "total" "I", .fieldLink RX9 95 "OwnedPlaces$Text" "fault" "I", .fieldLink RX9 28 "OwnedPlaces$Text" "place" "I", .code yX9_add cX9_add 4 none, .fieldLink RX9 9 "OwnedPlaces$Text" "kinds" "[I", .fieldLink RX9 15 "OwnedPlaces$Text" "places" "[I", .fieldLink RX9 18 "OwnedPlaces$Text" "names" "[I", .fieldLink RX9 25 "OwnedPlaces$Text" "links" "[I", .methodLink RX9 102 yX9_add, .instanceMethod yX9_add, .selects RX9 yX9_add yX9_add, .initialized RX9, .fieldLink RX9 106 "OwnedPlaces$Text" "now" "I"]
def wp_c_read : List Cond := wf_c_read ++ (wsX90 ++ [])
theorem in_c_read_X9 : ∀ w ∈ wsX90, w ∈ wp_c_read := fun w h => List.mem_append_right _ (List.mem_append_left _ h)
theorem wg_c_read : wf_c_read.all goodWord = true := by decide +kernel
theorem wm_c_read (k : Nat) {w : Cond} (h : wp_c_read[k]? = some w) : w ∈ wp_c_read := List.mem_of_getElem? h
set_option maxRecDepth 20000 in
theorem g_c_read_c_add_68 : GoodIn wp_c_read (wsV RX9 102 RX9 yX9_add wp_c_add) := goodIn_app (goodIn_f [.methodLink RX9 102 yX9_add, .instanceMethod yX9_add, .selects RX9 yX9_add yX9_add, .initialized RX9] [16, 17, 18, 19] rfl (by decide +kernel)) (goodIn_app (goodIn_f (wf_c_add) [11, 12, 8, 13, 14, 15] rfl wg_c_add) (goodIn_app (goodIn_sub in_c_read_X9 gd_X9) (goodIn_n)))
set_option maxHeartbeats 4000000 in
set_option maxRecDepth 100000 in
theorem c_read (l : Launch) (dC : Nat → ClassId) (dI : Nat → Nat → Nat) (h tk tp tn tu tl tb ts tf tz tx th tw : Nat) (nt : Int32) (kI : ClassId) (fk fp fn fl fh fw : Nat → Int32) (sz : Nat) : Met l yX9_read wp_c_read ({ frames := 1, cells := 0, slots := 0, locals := 64 }) (va_Pc [.ref h, .int 0] (fun U => U.heap.size = sz ∧ va_P (dC, dI) vwCl [(h, .inr (9, [.ref tk, .ref tp, .ref tn, .ref tu, .ref tl, .int 0, .int 0, .int 0, .int (-1), .int nt, .ref tb, .int 0, .ref ts, .ref tf, .ref tz, .ref tx, .ref th, .ref tw])), (tk, .inl (kI, 3002, .inl fk)), (tp, .inl (kI, 3002, .inl fp)), (tn, .inl (kI, 3002, .inl fn)), (tl, .inl (kI, 3002, .inl fl)), (th, .inl (kI, 256, .inl fh)), (tw, .inl (kI, 256, .inl fw))] U.heap ∧ va_K (dC, dI) vwCl [(kI, .int)] U ∧ va_D (fun _ => True) [(h, .inr (9, [.ref tk, .ref tp, .ref tn, .ref tu, .ref tl, .int 0, .int 0, .int 0, .int (-1), .int nt, .ref tb, .int 0, .ref ts, .ref tf, .ref tz, .ref tx, .ref th, .ref tw])), (tk, .inl (kI, 3002, .inl fk)), (tp, .inl (kI, 3002, .inl fp)), (tn, .inl (kI, 3002, .inl fn)), (tl, .inl (kI, 3002, .inl fl)), (th, .inl (kI, 256, .inl fh)), (tw, .inl (kI, 256, .inl fw))])) (va_Qv (fun _ : Unit => True) (fun (_ : Unit) (t : State) => ∃ (gk : Nat → Int32) (gp : Nat → Int32) (gn : Nat → Int32) (gl : Nat → Int32) (gh : Nat → Int32), (gk 0 = 0) ∧ (gp 0 = 0) ∧ va_P (dC, dI) vwCl [(h, .inr (9, [.ref tk, .ref tp, .ref tn, .ref tu, .ref tl, .int 0, .int 0, .int 0, .int (-1), .int 20, .ref tb, .int 1, .ref ts, .ref tf, .ref tz, .ref tx, .ref th, .ref tw])), (tk, .inl (kI, 3002, .inl gk)), (tp, .inl (kI, 3002, .inl gp)), (tn, .inl (kI, 3002, .inl gn)), (tl, .inl (kI, 3002, .inl gl)), (th, .inl (kI, 256, .inl gh)), (tw, .inl (kI, 256, .inl fw))] t.heap ∧ va_K (dC, dI) vwCl [(kI, .int)] t ∧ va_D (va_A [(h, .inr (9, [.ref tk, .ref tp, .ref tn, .ref tu, .ref tl, .int 0, .int 0, .int 0, .int (-1), .int nt, .ref tb, .int 0, .ref ts, .ref tf, .ref tz, .ref tx, .ref th, .ref tw])), (tk, .inl (kI, 3002, .inl fk)), (tp, .inl (kI, 3002, .inl fp)), (tn, .inl (kI, 3002, .inl fn)), (tl, .inl (kI, 3002, .inl fl)), (th, .inl (kI, 256, .inl fh)), (tw, .inl (kI, 256, .inl fw))] sz) [(h, .inr (9, [.ref tk, .ref tp, .ref tn, .ref tu, .ref tl, .int 0, .int 0, .int 0, .int (-1), .int 20, .ref tb, .int 1, .ref ts, .ref tf, .ref tz, .ref tx, .ref th, .ref tw])), (tk, .inl (kI, 3002, .inl gk)), (tp, .inl (kI, 3002, .inl gp)), (tn, .inl (kI, 3002, .inl gn)), (tl, .inl (kI, 3002, .inl gl)), (th, .inl (kI, 256, .inl gh)), (tw, .inl (kI, 256, .inl fw))]) (va_A [(h, .inr (9, [.ref tk, .ref tp, .ref tn, .ref tu, .ref tl, .int 0, .int 0, .int 0, .int (-1), .int nt, .ref tb, .int 0, .ref ts, .ref tf, .ref tz, .ref tx, .ref th, .ref tw])), (tk, .inl (kI, 3002, .inl fk)), (tp, .inl (kI, 3002, .inl fp)), (tn, .inl (kI, 3002, .inl fn)), (tl, .inl (kI, 3002, .inl fl)), (th, .inl (kI, 256, .inl fh)), (tw, .inl (kI, 256, .inl fw))] sz)) 0 0 (va_A [(h, .inr (9, [.ref tk, .ref tp, .ref tn, .ref tu, .ref tl, .int 0, .int 0, .int 0, .int (-1), .int nt, .ref tb, .int 0, .ref ts, .ref tf, .ref tz, .ref tx, .ref th, .ref tw])), (tk, .inl (kI, 3002, .inl fk)), (tp, .inl (kI, 3002, .inl fp)), (tn, .inl (kI, 3002, .inl fn)), (tl, .inl (kI, 3002, .inl fl)), (th, .inl (kI, 256, .inl fh)), (tw, .inl (kI, 256, .inl fw))] sz) := by
  refine Met.ofW (cc := cX9_read) (maxL := 4) (ret := none) (by decide) rfl ?_
  intro p e s m args below meth c s₁ B hml hv
  obtain ⟨rfl, hsz, hP, hK, hD0⟩ := hv
  have hx := B.exec
  have hb := B.bytes
  have hr := B.returns
  have hts := atoms_spec (ws := wp_c_read) B.pre
  have hown : s.vm.findClass RX9 = some m.cls := findClass_of_methodNamed B.named
  have hlocks := B.notSynchronized
  subst hsz
  have hD := hD0.self (sz := s.heap.size)
  generalize hAe : va_A [(h, .inr (9, [.ref tk, .ref tp, .ref tn, .ref tu, .ref tl, .int 0, .int 0, .int 0, .int (-1), .int nt, .ref tb, .int 0, .ref ts, .ref tf, .ref tz, .ref tx, .ref th, .ref tw])), (tk, .inl (kI, 3002, .inl fk)), (tp, .inl (kI, 3002, .inl fp)), (tn, .inl (kI, 3002, .inl fn)), (tl, .inl (kI, 3002, .inl fl)), (th, .inl (kI, 256, .inl fh)), (tw, .inl (kI, 256, .inl fw))] s.heap.size = A at hD ⊢
  have hA : ∀ q : Nat, s.heap.size ≤ q → A q := fun q h => by rw [← hAe]; exact Or.inr h
  have hS : va_S A s.heap s.heap [] := va_S.rf
  have hP : va_P (dC, dI) vwCl [(h, .inr (9, [.ref tk, .ref tp, .ref tn, .ref tu, .ref tl, .int 0, .int 0, .int 0, .int (-1), .int nt, .ref tb, .int 0, .ref ts, .ref tf, .ref tz, .ref tx, .ref th, .ref tw])), (tk, .inl (kI, 3002, .inl fk)), (tp, .inl (kI, 3002, .inl fp)), (tn, .inl (kI, 3002, .inl fn)), (tl, .inl (kI, 3002, .inl fl)), (th, .inl (kI, 256, .inl fh)), (tw, .inl (kI, 256, .inl fw))] s.heap := hP
  have hl := lv_entry ([.ref h, .int 0]) (n := 4) (Nat.le_of_ble_eq_true rfl)
  rw [lg_entry_eq]
  generalize (lg_sl ([.ref h, .int 0]) ++ List.replicate (4 - (lg_sl ([.ref h, .int 0])).length) Slot.unset).toArray = ls at hl ⊢
  have hl : lv_has ls 4 [(0, .ref h), (1, .int 0)] := hl
  refine lv_aload_n hx hb dX9_read_0 rfl (lv_at hl 0 rfl) ?_
  refine va_get (D := (dC, dI)) (ci := 9) (v := .ref tw) (C := RX9) (T := TX9) (N := 18) hx hb hts in_c_read_X9 hown hK hP 0 rfl rfl 17 (by decide) (hts (.fieldLink RX9 78 "OwnedPlaces$Text" "wordHeads" "[I") (wm_c_read 1 rfl)) (fun _ h9 => h9) rfl dX9_read_1 ?_
  refine lv_iconst (v := 0) hx hb dX9_read_4 (by decide) ?_
  refine lv_aload_n hx hb dX9_read_5 rfl (lv_at hl 0 rfl) ?_
  refine va_get (D := (dC, dI)) (ci := 9) (v := .ref th) (C := RX9) (T := TX9) (N := 18) hx hb hts in_c_read_X9 hown hK hP 0 rfl rfl 16 (by decide) (hts (.fieldLink RX9 48 "OwnedPlaces$Text" "heads" "[I") (wm_c_read 2 rfl)) (fun _ h9 => h9) rfl dX9_read_6 ?_
  refine lv_iconst (v := 0) hx hb dX9_read_9 (by decide) ?_
  refine lv_sipush (v := 256) hx hb dX9_read_10 (by decide) ?_
  refine va_copyi (ty := .int) hx hb (by rw [hml]; exact hl.1.symm) hown (hts (.methodLink RX9 83 arraycopyName) (wm_c_read 3 rfl)) (hts (.native arraycopyName) (wm_c_read 4 rfl)) (hts (.static arraycopyName) (wm_c_read 5 rfl)) (hts (.initialized "java/lang/System") (wm_c_read 6 rfl)) hK hP hD hS 6 5 0 0 rfl rfl rfl rfl rfl (by decide) (by decide) (by decide) (by decide) (by decide) (fun _ _ => rfl) (Nat.le_of_ble_eq_true rfl) (by decide) dX9_read_13 (fun H locs hP hD hS => ?_)
  have hP : va_P (dC, dI) vwCl [(h, .inr (9, [.ref tk, .ref tp, .ref tn, .ref tu, .ref tl, .int 0, .int 0, .int 0, .int (-1), .int nt, .ref tb, .int 0, .ref ts, .ref tf, .ref tz, .ref tx, .ref th, .ref tw])), (tk, .inl (kI, 3002, .inl fk)), (tp, .inl (kI, 3002, .inl fp)), (tn, .inl (kI, 3002, .inl fn)), (tl, .inl (kI, 3002, .inl fl)), (th, .inl (kI, 256, .inl (va_cpy fw fh (0 : Int32).toNatClampNeg (0 : Int32).toNatClampNeg (256 : Int32).toNatClampNeg))), (tw, .inl (kI, 256, .inl fw))] H := hP
  have hD : va_D A [(h, .inr (9, [.ref tk, .ref tp, .ref tn, .ref tu, .ref tl, .int 0, .int 0, .int 0, .int (-1), .int nt, .ref tb, .int 0, .ref ts, .ref tf, .ref tz, .ref tx, .ref th, .ref tw])), (tk, .inl (kI, 3002, .inl fk)), (tp, .inl (kI, 3002, .inl fp)), (tn, .inl (kI, 3002, .inl fn)), (tl, .inl (kI, 3002, .inl fl)), (th, .inl (kI, 256, .inl (va_cpy fw fh (0 : Int32).toNatClampNeg (0 : Int32).toNatClampNeg (256 : Int32).toNatClampNeg))), (tw, .inl (kI, 256, .inl fw))] := hD
  obtain ⟨fh1, efh1⟩ : ∃ z : Nat → Int32, z = va_cpy fw fh (0 : Int32).toNatClampNeg (0 : Int32).toNatClampNeg (256 : Int32).toNatClampNeg := ⟨_, rfl⟩
  rw [← efh1] at hP hD
  refine lv_aload_n hx hb dX9_read_16 rfl (lv_at hl 0 rfl) ?_
  refine lv_bipush (v := 20) hx hb dX9_read_17 (by decide) ?_
  refine va_put (D := (dC, dI)) (ci := 9) (v := .int 20) (ty := .int) (C := RX9) (T := TX9) (N := 18) hx hb hts in_c_read_X9 tyX9 tyX9_ok nmX9 hown hK hP hD hS 0 rfl rfl 9 (by decide) (hts (.fieldLink RX9 89 "OwnedPlaces$Text" "nameTotal" "I") (wm_c_read 7 rfl)) (fun _ h9 => h9) rfl (by decide +kernel) rfl rfl (Nat.le_of_ble_eq_true rfl) dX9_read_19 (fun H locs hP hD hS => ?_)
  have hP : va_P (dC, dI) vwCl [(h, .inr (9, [.ref tk, .ref tp, .ref tn, .ref tu, .ref tl, .int 0, .int 0, .int 0, .int (-1), .int 20, .ref tb, .int 0, .ref ts, .ref tf, .ref tz, .ref tx, .ref th, .ref tw])), (tk, .inl (kI, 3002, .inl fk)), (tp, .inl (kI, 3002, .inl fp)), (tn, .inl (kI, 3002, .inl fn)), (tl, .inl (kI, 3002, .inl fl)), (th, .inl (kI, 256, .inl fh1)), (tw, .inl (kI, 256, .inl fw))] H := hP
  have hD : va_D A [(h, .inr (9, [.ref tk, .ref tp, .ref tn, .ref tu, .ref tl, .int 0, .int 0, .int 0, .int (-1), .int 20, .ref tb, .int 0, .ref ts, .ref tf, .ref tz, .ref tx, .ref th, .ref tw])), (tk, .inl (kI, 3002, .inl fk)), (tp, .inl (kI, 3002, .inl fp)), (tn, .inl (kI, 3002, .inl fn)), (tl, .inl (kI, 3002, .inl fl)), (th, .inl (kI, 256, .inl fh1)), (tw, .inl (kI, 256, .inl fw))] := hD
  refine lv_aload_n hx hb dX9_read_22 rfl (lv_at hl 0 rfl) ?_
  refine lv_iconst (v := 0) hx hb dX9_read_23 (by decide) ?_
  refine va_put (D := (dC, dI)) (ci := 9) (v := .int 0) (ty := .int) (C := RX9) (T := TX9) (N := 18) hx hb hts in_c_read_X9 tyX9 tyX9_ok nmX9 hown hK hP hD hS 0 rfl rfl 11 (by decide) (hts (.fieldLink RX9 92 "OwnedPlaces$Text" "total" "I") (wm_c_read 8 rfl)) (fun _ h9 => h9) rfl (by decide +kernel) rfl rfl (Nat.le_of_ble_eq_true rfl) dX9_read_24 (fun H locs hP hD hS => ?_)
  have hP : va_P (dC, dI) vwCl [(h, .inr (9, [.ref tk, .ref tp, .ref tn, .ref tu, .ref tl, .int 0, .int 0, .int 0, .int (-1), .int 20, .ref tb, .int 0, .ref ts, .ref tf, .ref tz, .ref tx, .ref th, .ref tw])), (tk, .inl (kI, 3002, .inl fk)), (tp, .inl (kI, 3002, .inl fp)), (tn, .inl (kI, 3002, .inl fn)), (tl, .inl (kI, 3002, .inl fl)), (th, .inl (kI, 256, .inl fh1)), (tw, .inl (kI, 256, .inl fw))] H := hP
  have hD : va_D A [(h, .inr (9, [.ref tk, .ref tp, .ref tn, .ref tu, .ref tl, .int 0, .int 0, .int 0, .int (-1), .int 20, .ref tb, .int 0, .ref ts, .ref tf, .ref tz, .ref tx, .ref th, .ref tw])), (tk, .inl (kI, 3002, .inl fk)), (tp, .inl (kI, 3002, .inl fp)), (tn, .inl (kI, 3002, .inl fn)), (tl, .inl (kI, 3002, .inl fl)), (th, .inl (kI, 256, .inl fh1)), (tw, .inl (kI, 256, .inl fw))] := hD
  refine lv_aload_n hx hb dX9_read_27 rfl (lv_at hl 0 rfl) ?_
  refine lv_iconst (v := 0) hx hb dX9_read_28 (by decide) ?_
  refine va_put (D := (dC, dI)) (ci := 9) (v := .int 0) (ty := .int) (C := RX9) (T := TX9) (N := 18) hx hb hts in_c_read_X9 tyX9 tyX9_ok nmX9 hown hK hP hD hS 0 rfl rfl 7 (by decide) (hts (.fieldLink RX9 95 "OwnedPlaces$Text" "fault" "I") (wm_c_read 9 rfl)) (fun _ h9 => h9) rfl (by decide +kernel) rfl rfl (Nat.le_of_ble_eq_true rfl) dX9_read_29 (fun H locs hP hD hS => ?_)
  have hP : va_P (dC, dI) vwCl [(h, .inr (9, [.ref tk, .ref tp, .ref tn, .ref tu, .ref tl, .int 0, .int 0, .int 0, .int (-1), .int 20, .ref tb, .int 0, .ref ts, .ref tf, .ref tz, .ref tx, .ref th, .ref tw])), (tk, .inl (kI, 3002, .inl fk)), (tp, .inl (kI, 3002, .inl fp)), (tn, .inl (kI, 3002, .inl fn)), (tl, .inl (kI, 3002, .inl fl)), (th, .inl (kI, 256, .inl fh1)), (tw, .inl (kI, 256, .inl fw))] H := hP
  have hD : va_D A [(h, .inr (9, [.ref tk, .ref tp, .ref tn, .ref tu, .ref tl, .int 0, .int 0, .int 0, .int (-1), .int 20, .ref tb, .int 0, .ref ts, .ref tf, .ref tz, .ref tx, .ref th, .ref tw])), (tk, .inl (kI, 3002, .inl fk)), (tp, .inl (kI, 3002, .inl fp)), (tn, .inl (kI, 3002, .inl fn)), (tl, .inl (kI, 3002, .inl fl)), (th, .inl (kI, 256, .inl fh1)), (tw, .inl (kI, 256, .inl fw))] := hD
  refine lv_aload_n hx hb dX9_read_32 rfl (lv_at hl 0 rfl) ?_
  refine lv_iconst (v := (-1)) hx hb dX9_read_33 (by decide) ?_
  refine va_put (D := (dC, dI)) (ci := 9) (v := .int (-1)) (ty := .int) (C := RX9) (T := TX9) (N := 18) hx hb hts in_c_read_X9 tyX9 tyX9_ok nmX9 hown hK hP hD hS 0 rfl rfl 8 (by decide) (hts (.fieldLink RX9 28 "OwnedPlaces$Text" "place" "I") (wm_c_read 10 rfl)) (fun _ h9 => h9) rfl (by decide +kernel) rfl rfl (Nat.le_of_ble_eq_true rfl) dX9_read_34 (fun H locs hP hD hS => ?_)
  have hP : va_P (dC, dI) vwCl [(h, .inr (9, [.ref tk, .ref tp, .ref tn, .ref tu, .ref tl, .int 0, .int 0, .int 0, .int (-1), .int 20, .ref tb, .int 0, .ref ts, .ref tf, .ref tz, .ref tx, .ref th, .ref tw])), (tk, .inl (kI, 3002, .inl fk)), (tp, .inl (kI, 3002, .inl fp)), (tn, .inl (kI, 3002, .inl fn)), (tl, .inl (kI, 3002, .inl fl)), (th, .inl (kI, 256, .inl fh1)), (tw, .inl (kI, 256, .inl fw))] H := hP
  have hD : va_D A [(h, .inr (9, [.ref tk, .ref tp, .ref tn, .ref tu, .ref tl, .int 0, .int 0, .int 0, .int (-1), .int 20, .ref tb, .int 0, .ref ts, .ref tf, .ref tz, .ref tx, .ref th, .ref tw])), (tk, .inl (kI, 3002, .inl fk)), (tp, .inl (kI, 3002, .inl fp)), (tn, .inl (kI, 3002, .inl fn)), (tl, .inl (kI, 3002, .inl fl)), (th, .inl (kI, 256, .inl fh1)), (tw, .inl (kI, 256, .inl fw))] := hD
  refine lv_iconst (v := 0) hx hb dX9_read_37 (by decide) ?_
  refine lv_istore_n (lv' := [(2, .int 0), (0, .ref h), (1, .int 0)]) hx hb dX9_read_38 rfl hl (by decide) rfl (fun ls hl => ?_)
  refine lv_iconst (v := 0) hx hb dX9_read_39 (by decide) ?_
  refine lv_istore_n (lv' := [(3, .int 0), (2, .int 0), (0, .ref h), (1, .int 0)]) hx hb dX9_read_40 rfl hl (by decide) rfl (fun ls hl => ?_)
  refine lv_iload_n hx hb dX9_read_41 rfl (lv_at hl 0 rfl) ?_
  refine lv_iload_n hx hb dX9_read_42 rfl (lv_at hl 3 rfl) ?_
  refine lv_icmp_ge (tgt := 64) hx hb dX9_read_43 (by decide) (fun _ => ?_) (fun c_1 => absurd (by decide) c_1)
  refine lv_aload_n hx hb dX9_read_64 rfl (lv_at hl 2 rfl) ?_
  refine lv_iconst (v := 0) hx hb dX9_read_65 (by decide) ?_
  refine lv_iload_n hx hb dX9_read_66 rfl (lv_at hl 3 rfl) ?_
  refine lv_iconst (v := 0) hx hb dX9_read_67 (by decide) ?_
  have hPc := hP.sub (ws' := [(h, .inr (9, [.ref tk, .ref tp, .ref tn, .ref tu, .ref tl, .int 0, .int 0, .int 0, .int (-1), .int 20, .ref tb, .int 0, .ref ts, .ref tf, .ref tz, .ref tx, .ref th, .ref tw])), (tk, .inl (kI, 3002, .inl fk)), (tp, .inl (kI, 3002, .inl fp)), (tn, .inl (kI, 3002, .inl fn)), (tl, .inl (kI, 3002, .inl fl))]) [0, 1, 2, 3, 4] rfl
  have hDc := hD.sub (ws' := [(h, .inr (9, [.ref tk, .ref tp, .ref tn, .ref tu, .ref tl, .int 0, .int 0, .int 0, .int (-1), .int 20, .ref tb, .int 0, .ref ts, .ref tf, .ref tz, .ref tx, .ref th, .ref tw])), (tk, .inl (kI, 3002, .inl fk)), (tp, .inl (kI, 3002, .inl fp)), (tn, .inl (kI, 3002, .inl fn)), (tl, .inl (kI, 3002, .inl fl))]) [0, 1, 2, 3, 4] (by decide) rfl
  have hKc := hK.sub (tys' := [(kI, .int)]) [0] rfl
  have hFc := va_free (wc := [(h, .inr (9, [.ref tk, .ref tp, .ref tn, .ref tu, .ref tl, .int 0, .int 0, .int 0, .int (-1), .int 20, .ref tb, .int 0, .ref ts, .ref tf, .ref tz, .ref tx, .ref th, .ref tw])), (tk, .inl (kI, 3002, .inl fk)), (tp, .inl (kI, 3002, .inl fp)), (tn, .inl (kI, 3002, .inl fn)), (tl, .inl (kI, 3002, .inl fl))]) hD hS hA [0, 1, 2, 3, 4] rfl
  refine va_callv (va_runV (As := [.int 0, .int 0, .int 0]) (rest := []) ⟨hx, hb, hml, hown, hts⟩ (c_add l dC dI h tk tp tn tu tl tb ts tf tz tx th tw 20 kI fk fp fn fl H.size) (cwV 3 hts g_c_read_c_add_68 rfl rfl rfl (by decide +kernel) ⟨Nat.le_of_ble_eq_true rfl, Nat.le_of_ble_eq_true rfl⟩) ⟨fun a U g mk q => by obtain ⟨q0, q1, qP, qK, qD⟩ := q; exact ⟨q0, q1, qP, va_K.moved (u := U) (U := U.calling g mk a) (Vm.Alike.refl U.vm) qK, qD⟩, va_recv hKc hPc (ci := 9) (q0 := 0) rfl rfl, fun U hU hW => ⟨rfl, by rw [hU], by rw [hU]; exact hPc, va_K.moved hW.alike hKc, hDc.weaken (fun _ _ _ _ => trivial)⟩⟩ rfl rfl hl.1 rfl (lv_room (Nat.le_of_ble_eq_true rfl)) dX9_read_68 ⟨(show 0 + 0 ≤ 0 by omega), (show 0 + 0 ≤ 0 by omega)⟩) hS (fun q _ h => hFc q h) hFc (fun u tS H1 locs ht hvm hw hB hz1 hk1 hS => ?_)
  obtain ⟨gk1, gp1, gn1, gl1, hf2_0, hf2_1, hP1, hK1, hD1⟩ := hB
  rw [ht] at hP1
  have hK1 := va_K.moved hvm.symm hK1
  obtain ⟨hP, hD⟩ := va_join (wr := [(th, .inl (kI, 256, .inl fh1)), (tw, .inl (kI, 256, .inl fw))]) (w1 := [(h, .inr (9, [.ref tk, .ref tp, .ref tn, .ref tu, .ref tl, .int 0, .int 0, .int 0, .int (-1), .int 20, .ref tb, .int 1, .ref ts, .ref tf, .ref tz, .ref tx, .ref th, .ref tw])), (tk, .inl (kI, 3002, .inl gk1)), (tp, .inl (kI, 3002, .inl gp1)), (tn, .inl (kI, 3002, .inl gn1)), (tl, .inl (kI, 3002, .inl gl1))]) hP hD [0, 1, 2, 3, 4] [5, 6] rfl rfl (by decide) (by decide) hk1 hFc hP1 hD1
  have hK := hK.app hK1
  generalize H1 = H at hP hS ⊢
  have hP : va_P (dC, dI) vwCl [(th, .inl (kI, 256, .inl fh1)), (tw, .inl (kI, 256, .inl fw)), (h, .inr (9, [.ref tk, .ref tp, .ref tn, .ref tu, .ref tl, .int 0, .int 0, .int 0, .int (-1), .int 20, .ref tb, .int 1, .ref ts, .ref tf, .ref tz, .ref tx, .ref th, .ref tw])), (tk, .inl (kI, 3002, .inl gk1)), (tp, .inl (kI, 3002, .inl gp1)), (tn, .inl (kI, 3002, .inl gn1)), (tl, .inl (kI, 3002, .inl gl1))] H := hP
  have hD : va_D A [(th, .inl (kI, 256, .inl fh1)), (tw, .inl (kI, 256, .inl fw)), (h, .inr (9, [.ref tk, .ref tp, .ref tn, .ref tu, .ref tl, .int 0, .int 0, .int 0, .int (-1), .int 20, .ref tb, .int 1, .ref ts, .ref tf, .ref tz, .ref tx, .ref th, .ref tw])), (tk, .inl (kI, 3002, .inl gk1)), (tp, .inl (kI, 3002, .inl gp1)), (tn, .inl (kI, 3002, .inl gn1)), (tl, .inl (kI, 3002, .inl gl1))] := hD
  have hK : va_K (dC, dI) vwCl [(kI, .int), (kI, .int)] s := hK
  have hK := hK.sub (tys' := [(kI, .int)]) [0] rfl
  have hP : va_P (dC, dI) vwCl [(th, .inl (kI, 256, .inl fh1)), (tw, .inl (kI, 256, .inl fw)), (h, .inr (9, [.ref tk, .ref tp, .ref tn, .ref tu, .ref tl, .int 0, .int 0, .int 0, .int (-1), .int 20, .ref tb, .int 1, .ref ts, .ref tf, .ref tz, .ref tx, .ref th, .ref tw])), (tk, .inl (kI, 3002, .inl gk1)), (tp, .inl (kI, 3002, .inl gp1)), (tn, .inl (kI, 3002, .inl gn1)), (tl, .inl (kI, 3002, .inl gl1))] H := hP
  have hD : va_D A [(th, .inl (kI, 256, .inl fh1)), (tw, .inl (kI, 256, .inl fw)), (h, .inr (9, [.ref tk, .ref tp, .ref tn, .ref tu, .ref tl, .int 0, .int 0, .int 0, .int (-1), .int 20, .ref tb, .int 1, .ref ts, .ref tf, .ref tz, .ref tx, .ref th, .ref tw])), (tk, .inl (kI, 3002, .inl gk1)), (tp, .inl (kI, 3002, .inl gp1)), (tn, .inl (kI, 3002, .inl gn1)), (tl, .inl (kI, 3002, .inl gl1))] := hD
  refine lv_aload_n hx hb dX9_read_71 rfl (lv_at hl 2 rfl) ?_
  refine lv_iconst (v := 0) hx hb dX9_read_72 (by decide) ?_
  refine va_put (D := (dC, dI)) (ci := 9) (v := .int 0) (ty := .int) (C := RX9) (T := TX9) (N := 18) hx hb hts in_c_read_X9 tyX9 tyX9_ok nmX9 hown hK hP hD hS 2 rfl rfl 6 (by decide) (hts (.fieldLink RX9 106 "OwnedPlaces$Text" "now" "I") (wm_c_read 20 rfl)) (fun _ h9 => h9) rfl (by decide +kernel) rfl rfl (Nat.le_of_ble_eq_true rfl) dX9_read_73 (fun H locs hP hD hS => ?_)
  have hP : va_P (dC, dI) vwCl [(th, .inl (kI, 256, .inl fh1)), (tw, .inl (kI, 256, .inl fw)), (h, .inr (9, [.ref tk, .ref tp, .ref tn, .ref tu, .ref tl, .int 0, .int 0, .int 0, .int (-1), .int 20, .ref tb, .int 1, .ref ts, .ref tf, .ref tz, .ref tx, .ref th, .ref tw])), (tk, .inl (kI, 3002, .inl gk1)), (tp, .inl (kI, 3002, .inl gp1)), (tn, .inl (kI, 3002, .inl gn1)), (tl, .inl (kI, 3002, .inl gl1))] H := hP
  have hD : va_D A [(th, .inl (kI, 256, .inl fh1)), (tw, .inl (kI, 256, .inl fw)), (h, .inr (9, [.ref tk, .ref tp, .ref tn, .ref tu, .ref tl, .int 0, .int 0, .int 0, .int (-1), .int 20, .ref tb, .int 1, .ref ts, .ref tf, .ref tz, .ref tx, .ref th, .ref tw])), (tk, .inl (kI, 3002, .inl gk1)), (tp, .inl (kI, 3002, .inl gp1)), (tn, .inl (kI, 3002, .inl gn1)), (tl, .inl (kI, 3002, .inl gl1))] := hD
  have hP9 := hP.sub (ws' := [(h, .inr (9, [.ref tk, .ref tp, .ref tn, .ref tu, .ref tl, .int 0, .int 0, .int 0, .int (-1), .int 20, .ref tb, .int 1, .ref ts, .ref tf, .ref tz, .ref tx, .ref th, .ref tw])), (tk, .inl (kI, 3002, .inl gk1)), (tp, .inl (kI, 3002, .inl gp1)), (tn, .inl (kI, 3002, .inl gn1)), (tl, .inl (kI, 3002, .inl gl1)), (th, .inl (kI, 256, .inl fh1)), (tw, .inl (kI, 256, .inl fw))]) [2, 3, 4, 5, 6, 0, 1] rfl
  have hD9 := hD.sub (ws' := [(h, .inr (9, [.ref tk, .ref tp, .ref tn, .ref tu, .ref tl, .int 0, .int 0, .int 0, .int (-1), .int 20, .ref tb, .int 1, .ref ts, .ref tf, .ref tz, .ref tx, .ref th, .ref tw])), (tk, .inl (kI, 3002, .inl gk1)), (tp, .inl (kI, 3002, .inl gp1)), (tn, .inl (kI, 3002, .inl gn1)), (tl, .inl (kI, 3002, .inl gl1)), (th, .inl (kI, 256, .inl fh1)), (tw, .inl (kI, 256, .inl fw))]) [2, 3, 4, 5, 6, 0, 1] (by decide) rfl
  have hK9 := hK.sub (tys' := [(kI, .int)]) [0] rfl
  exact W.vret hx hb hr (fun tS ht hW => ⟨⟨(), rfl, trivial, gk1, gp1, gn1, gl1, fh1, hf2_0, hf2_1, by rw [ht]; exact hP9, va_K.moved hW.alike hK9, hD9⟩, hS.F ht⟩) hS.2.2 dX9_read_76
end
section
def wf_c_program : List Cond := [.code yX3_program cX3_program 3 none, .fieldLink RX3 19 "OwnedPlaces$Grammar" "total" "I", .fieldLink RX3 23 "OwnedPlaces$Grammar" "shapes" "I", .fieldLink RX3 26 "OwnedPlaces$Grammar" "functions" "I", .fieldLink RX3 15 "OwnedPlaces$Grammar" "text" "LOwnedPlaces$Text;", .code yX9_kind cX9_kind 1 (some .int), .fieldLink RX9 9 "OwnedPlaces$Text" "kinds" "[I", .fieldLink RX9 106 "OwnedPlaces$Text" "now" "I", .methodLink RX3 29 yX9_kind, .instanceMethod yX9_kind, .selects RX9 yX9_kind yX9_kind, .initialized RX9]
def wp_c_program : List Cond := wf_c_program ++ (wsX30 ++ (wsX90 ++ []))
theorem in_c_program_X3 : ∀ w ∈ wsX30, w ∈ wp_c_program := fun w h => List.mem_append_right _ (List.mem_append_left _ h)
theorem in_c_program_X9 : ∀ w ∈ wsX90, w ∈ wp_c_program := fun w h => List.mem_append_right _ (List.mem_append_right _ (List.mem_append_left _ h))
theorem wg_c_program : wf_c_program.all goodWord = true := by decide +kernel
theorem wm_c_program (k : Nat) {w : Cond} (h : wp_c_program[k]? = some w) : w ∈ wp_c_program := List.mem_of_getElem? h
set_option maxRecDepth 20000 in
theorem g_c_program_c_kind_28 : GoodIn wp_c_program (wsV RX3 29 RX9 yX9_kind wp_c_kind) := goodIn_app (goodIn_f [.methodLink RX3 29 yX9_kind, .instanceMethod yX9_kind, .selects RX9 yX9_kind yX9_kind, .initialized RX9] [8, 9, 10, 11] rfl (by decide +kernel)) (goodIn_app (goodIn_f (wf_c_kind) [5, 6, 7] rfl wg_c_kind) (goodIn_app (goodIn_sub in_c_program_X9 gd_X9) (goodIn_n)))
set_option maxHeartbeats 4000000 in
set_option maxRecDepth 100000 in
theorem c_program (l : Launch) (dC : Nat → ClassId) (dI : Nat → Nat → Nat) (g gi : Nat) (h tk tp tn tu tl tb ts tf tz tx th tw : Nat) (kI : ClassId) (fk : Nat → Int32) (sz : Nat) (hf0 : fk 0 = 0) : Met l yX3_program wp_c_program ({ frames := 1, cells := 0, slots := 0, locals := 20 }) (va_Pc [.ref g] (fun U => U.heap.size = sz ∧ va_P (dC, dI) vwCl [(g, .inr (3, [.ref h, .ref gi, .int 0, .int 0, .int 0, .int 0, .int 0])), (h, .inr (9, [.ref tk, .ref tp, .ref tn, .ref tu, .ref tl, .int 0, .int 0, .int 0, .int (-1), .int 20, .ref tb, .int 1, .ref ts, .ref tf, .ref tz, .ref tx, .ref th, .ref tw])), (tk, .inl (kI, 3002, .inl fk))] U.heap ∧ va_K (dC, dI) vwCl [(kI, .int)] U ∧ va_D (fun _ => True) [(g, .inr (3, [.ref h, .ref gi, .int 0, .int 0, .int 0, .int 0, .int 0])), (h, .inr (9, [.ref tk, .ref tp, .ref tn, .ref tu, .ref tl, .int 0, .int 0, .int 0, .int (-1), .int 20, .ref tb, .int 1, .ref ts, .ref tf, .ref tz, .ref tx, .ref th, .ref tw])), (tk, .inl (kI, 3002, .inl fk))])) (va_Qv (fun _ : Unit => True) (fun (_ : Unit) (t : State) => va_P (dC, dI) vwCl [(g, .inr (3, [.ref h, .ref gi, .int 0, .int 0, .int 0, .int 0, .int 0])), (h, .inr (9, [.ref tk, .ref tp, .ref tn, .ref tu, .ref tl, .int 0, .int 0, .int 0, .int (-1), .int 20, .ref tb, .int 1, .ref ts, .ref tf, .ref tz, .ref tx, .ref th, .ref tw])), (tk, .inl (kI, 3002, .inl fk))] t.heap ∧ va_K (dC, dI) vwCl [(kI, .int)] t ∧ va_D (va_A [(g, .inr (3, [.ref h, .ref gi, .int 0, .int 0, .int 0, .int 0, .int 0])), (h, .inr (9, [.ref tk, .ref tp, .ref tn, .ref tu, .ref tl, .int 0, .int 0, .int 0, .int (-1), .int 20, .ref tb, .int 1, .ref ts, .ref tf, .ref tz, .ref tx, .ref th, .ref tw])), (tk, .inl (kI, 3002, .inl fk))] sz) [(g, .inr (3, [.ref h, .ref gi, .int 0, .int 0, .int 0, .int 0, .int 0])), (h, .inr (9, [.ref tk, .ref tp, .ref tn, .ref tu, .ref tl, .int 0, .int 0, .int 0, .int (-1), .int 20, .ref tb, .int 1, .ref ts, .ref tf, .ref tz, .ref tx, .ref th, .ref tw])), (tk, .inl (kI, 3002, .inl fk))]) (va_A [(g, .inr (3, [.ref h, .ref gi, .int 0, .int 0, .int 0, .int 0, .int 0])), (h, .inr (9, [.ref tk, .ref tp, .ref tn, .ref tu, .ref tl, .int 0, .int 0, .int 0, .int (-1), .int 20, .ref tb, .int 1, .ref ts, .ref tf, .ref tz, .ref tx, .ref th, .ref tw])), (tk, .inl (kI, 3002, .inl fk))] sz)) 0 0 (va_A [(g, .inr (3, [.ref h, .ref gi, .int 0, .int 0, .int 0, .int 0, .int 0])), (h, .inr (9, [.ref tk, .ref tp, .ref tn, .ref tu, .ref tl, .int 0, .int 0, .int 0, .int (-1), .int 20, .ref tb, .int 1, .ref ts, .ref tf, .ref tz, .ref tx, .ref th, .ref tw])), (tk, .inl (kI, 3002, .inl fk))] sz) := by
  refine Met.ofW (cc := cX3_program) (maxL := 3) (ret := none) (by decide) rfl ?_
  intro p e s m args below meth c s₁ B hml hv
  obtain ⟨rfl, hsz, hP, hK, hD0⟩ := hv
  have hx := B.exec
  have hb := B.bytes
  have hr := B.returns
  have hts := atoms_spec (ws := wp_c_program) B.pre
  have hown : s.vm.findClass RX3 = some m.cls := findClass_of_methodNamed B.named
  have hlocks := B.notSynchronized
  subst hsz
  have hD := hD0.self (sz := s.heap.size)
  generalize hAe : va_A [(g, .inr (3, [.ref h, .ref gi, .int 0, .int 0, .int 0, .int 0, .int 0])), (h, .inr (9, [.ref tk, .ref tp, .ref tn, .ref tu, .ref tl, .int 0, .int 0, .int 0, .int (-1), .int 20, .ref tb, .int 1, .ref ts, .ref tf, .ref tz, .ref tx, .ref th, .ref tw])), (tk, .inl (kI, 3002, .inl fk))] s.heap.size = A at hD ⊢
  have hA : ∀ q : Nat, s.heap.size ≤ q → A q := fun q h => by rw [← hAe]; exact Or.inr h
  have hS : va_S A s.heap s.heap [] := va_S.rf
  have hP : va_P (dC, dI) vwCl [(g, .inr (3, [.ref h, .ref gi, .int 0, .int 0, .int 0, .int 0, .int 0])), (h, .inr (9, [.ref tk, .ref tp, .ref tn, .ref tu, .ref tl, .int 0, .int 0, .int 0, .int (-1), .int 20, .ref tb, .int 1, .ref ts, .ref tf, .ref tz, .ref tx, .ref th, .ref tw])), (tk, .inl (kI, 3002, .inl fk))] s.heap := hP
  have hl := lv_entry ([.ref g]) (n := 3) (Nat.le_of_ble_eq_true rfl)
  rw [lg_entry_eq]
  generalize (lg_sl ([.ref g]) ++ List.replicate (3 - (lg_sl ([.ref g])).length) Slot.unset).toArray = ls at hl ⊢
  have hl : lv_has ls 3 [(0, .ref g)] := hl
  refine lv_aload_n hx hb dX3_program_0 rfl (lv_at hl 0 rfl) ?_
  refine lv_iconst (v := 0) hx hb dX3_program_1 (by decide) ?_
  refine va_put (D := (dC, dI)) (ci := 3) (v := .int 0) (ty := .int) (C := RX3) (T := TX3) (N := 7) hx hb hts in_c_program_X3 tyX3 tyX3_ok nmX3 hown hK hP hD hS 0 rfl rfl 2 (by decide) (hts (.fieldLink RX3 19 "OwnedPlaces$Grammar" "total" "I") (wm_c_program 1 rfl)) (fun _ h9 => h9) rfl (by decide +kernel) rfl rfl (Nat.le_of_ble_eq_true rfl) dX3_program_2 (fun H locs hP hD hS => ?_)
  have hP : va_P (dC, dI) vwCl [(g, .inr (3, [.ref h, .ref gi, .int 0, .int 0, .int 0, .int 0, .int 0])), (h, .inr (9, [.ref tk, .ref tp, .ref tn, .ref tu, .ref tl, .int 0, .int 0, .int 0, .int (-1), .int 20, .ref tb, .int 1, .ref ts, .ref tf, .ref tz, .ref tx, .ref th, .ref tw])), (tk, .inl (kI, 3002, .inl fk))] H := hP
  have hD : va_D A [(g, .inr (3, [.ref h, .ref gi, .int 0, .int 0, .int 0, .int 0, .int 0])), (h, .inr (9, [.ref tk, .ref tp, .ref tn, .ref tu, .ref tl, .int 0, .int 0, .int 0, .int (-1), .int 20, .ref tb, .int 1, .ref ts, .ref tf, .ref tz, .ref tx, .ref th, .ref tw])), (tk, .inl (kI, 3002, .inl fk))] := hD
  refine lv_aload_n hx hb dX3_program_5 rfl (lv_at hl 0 rfl) ?_
  refine lv_iconst (v := 0) hx hb dX3_program_6 (by decide) ?_
  refine va_put (D := (dC, dI)) (ci := 3) (v := .int 0) (ty := .int) (C := RX3) (T := TX3) (N := 7) hx hb hts in_c_program_X3 tyX3 tyX3_ok nmX3 hown hK hP hD hS 0 rfl rfl 3 (by decide) (hts (.fieldLink RX3 23 "OwnedPlaces$Grammar" "shapes" "I") (wm_c_program 2 rfl)) (fun _ h9 => h9) rfl (by decide +kernel) rfl rfl (Nat.le_of_ble_eq_true rfl) dX3_program_7 (fun H locs hP hD hS => ?_)
  have hP : va_P (dC, dI) vwCl [(g, .inr (3, [.ref h, .ref gi, .int 0, .int 0, .int 0, .int 0, .int 0])), (h, .inr (9, [.ref tk, .ref tp, .ref tn, .ref tu, .ref tl, .int 0, .int 0, .int 0, .int (-1), .int 20, .ref tb, .int 1, .ref ts, .ref tf, .ref tz, .ref tx, .ref th, .ref tw])), (tk, .inl (kI, 3002, .inl fk))] H := hP
  have hD : va_D A [(g, .inr (3, [.ref h, .ref gi, .int 0, .int 0, .int 0, .int 0, .int 0])), (h, .inr (9, [.ref tk, .ref tp, .ref tn, .ref tu, .ref tl, .int 0, .int 0, .int 0, .int (-1), .int 20, .ref tb, .int 1, .ref ts, .ref tf, .ref tz, .ref tx, .ref th, .ref tw])), (tk, .inl (kI, 3002, .inl fk))] := hD
  refine lv_aload_n hx hb dX3_program_10 rfl (lv_at hl 0 rfl) ?_
  refine lv_iconst (v := 0) hx hb dX3_program_11 (by decide) ?_
  refine va_put (D := (dC, dI)) (ci := 3) (v := .int 0) (ty := .int) (C := RX3) (T := TX3) (N := 7) hx hb hts in_c_program_X3 tyX3 tyX3_ok nmX3 hown hK hP hD hS 0 rfl rfl 4 (by decide) (hts (.fieldLink RX3 26 "OwnedPlaces$Grammar" "functions" "I") (wm_c_program 3 rfl)) (fun _ h9 => h9) rfl (by decide +kernel) rfl rfl (Nat.le_of_ble_eq_true rfl) dX3_program_12 (fun H locs hP hD hS => ?_)
  have hP : va_P (dC, dI) vwCl [(g, .inr (3, [.ref h, .ref gi, .int 0, .int 0, .int 0, .int 0, .int 0])), (h, .inr (9, [.ref tk, .ref tp, .ref tn, .ref tu, .ref tl, .int 0, .int 0, .int 0, .int (-1), .int 20, .ref tb, .int 1, .ref ts, .ref tf, .ref tz, .ref tx, .ref th, .ref tw])), (tk, .inl (kI, 3002, .inl fk))] H := hP
  have hD : va_D A [(g, .inr (3, [.ref h, .ref gi, .int 0, .int 0, .int 0, .int 0, .int 0])), (h, .inr (9, [.ref tk, .ref tp, .ref tn, .ref tu, .ref tl, .int 0, .int 0, .int 0, .int (-1), .int 20, .ref tb, .int 1, .ref ts, .ref tf, .ref tz, .ref tx, .ref th, .ref tw])), (tk, .inl (kI, 3002, .inl fk))] := hD
  refine lv_iconst (v := 0) hx hb dX3_program_15 (by decide) ?_
  refine lv_istore_n (lv' := [(1, .int 0), (0, .ref g)]) hx hb dX3_program_16 rfl hl (by decide) rfl (fun ls hl => ?_)
  refine lv_iload_n hx hb dX3_program_17 rfl (lv_at hl 0 rfl) ?_
  refine lv_sipush (v := 3002) hx hb dX3_program_18 (by decide) ?_
  refine lv_icmp_ge (tgt := 84) hx hb dX3_program_21 (by decide) (fun c_1 => absurd c_1 (by decide)) (fun _ => ?_)
  refine lv_aload_n hx hb dX3_program_24 rfl (lv_at hl 1 rfl) ?_
  refine va_get (D := (dC, dI)) (ci := 3) (v := .ref h) (C := RX3) (T := TX3) (N := 7) hx hb hts in_c_program_X3 hown hK hP 0 rfl rfl 0 (by decide) (hts (.fieldLink RX3 15 "OwnedPlaces$Grammar" "text" "LOwnedPlaces$Text;") (wm_c_program 4 rfl)) (fun _ h9 => h9) rfl dX3_program_25 ?_
  have hPc := hP.sub (ws' := [(h, .inr (9, [.ref tk, .ref tp, .ref tn, .ref tu, .ref tl, .int 0, .int 0, .int 0, .int (-1), .int 20, .ref tb, .int 1, .ref ts, .ref tf, .ref tz, .ref tx, .ref th, .ref tw])), (tk, .inl (kI, 3002, .inl fk))]) [1, 2] rfl
  have hDc := hD.sub (ws' := [(h, .inr (9, [.ref tk, .ref tp, .ref tn, .ref tu, .ref tl, .int 0, .int 0, .int 0, .int (-1), .int 20, .ref tb, .int 1, .ref ts, .ref tf, .ref tz, .ref tx, .ref th, .ref tw])), (tk, .inl (kI, 3002, .inl fk))]) [1, 2] (by decide) rfl
  have hKc := hK.sub (tys' := [(kI, .int)]) [0] rfl
  have hFc := va_free (wc := [(h, .inr (9, [.ref tk, .ref tp, .ref tn, .ref tu, .ref tl, .int 0, .int 0, .int 0, .int (-1), .int 20, .ref tb, .int 1, .ref ts, .ref tf, .ref tz, .ref tx, .ref th, .ref tw])), (tk, .inl (kI, 3002, .inl fk))]) hD hS hA [1, 2] rfl
  refine va_calli (va_runV (As := []) (rest := []) ⟨hx, hb, hml, hown, hts⟩ (c_kind l dC dI h tk tp tn tu tl tb ts tf tz tx th tw 20 0 (-1) kI fk H.size hf0) (cwV 0 hts g_c_program_c_kind_28 rfl rfl rfl (by decide +kernel) ⟨Nat.le_of_ble_eq_true rfl, Nat.le_of_ble_eq_true rfl⟩) ⟨fun a U g mk q => by obtain ⟨q0, q1, qP, qK, qD⟩ := q; exact ⟨q0, q1, qP, va_K.moved (u := U) (U := U.calling g mk a) (Vm.Alike.refl U.vm) qK, qD⟩, va_recv hKc hPc (ci := 9) (q0 := 0) rfl rfl, fun U hU hW => ⟨rfl, by rw [hU], by rw [hU]; exact hPc, va_K.moved hW.alike hKc, hDc.weaken (fun _ _ _ _ => trivial)⟩⟩ rfl rfl hl.1 rfl (lv_room (Nat.le_of_ble_eq_true rfl)) dX3_program_28 ⟨(show 0 + 0 ≤ 0 by omega), (show 0 + 0 ≤ 0 by omega)⟩) hS (fun q _ h => hFc q h) hFc (fun r_2 u tS H1 locs ht hvm hw hB hz1 hk1 hS => ?_)
  obtain ⟨hP1, hK1, hD1⟩ := hB
  rw [ht] at hP1
  have hK1 := va_K.moved hvm.symm hK1
  obtain ⟨hP, hD⟩ := va_join (wr := [(g, .inr (3, [.ref h, .ref gi, .int 0, .int 0, .int 0, .int 0, .int 0]))]) (w1 := [(h, .inr (9, [.ref tk, .ref tp, .ref tn, .ref tu, .ref tl, .int 0, .int 0, .int 0, .int (-1), .int 20, .ref tb, .int 1, .ref ts, .ref tf, .ref tz, .ref tx, .ref th, .ref tw])), (tk, .inl (kI, 3002, .inl fk))]) hP hD [1, 2] [0] rfl rfl (by decide) (by decide) hk1 hFc hP1 hD1
  have hK := hK.app hK1
  generalize H1 = H at hP hS ⊢
  have hP : va_P (dC, dI) vwCl [(g, .inr (3, [.ref h, .ref gi, .int 0, .int 0, .int 0, .int 0, .int 0])), (h, .inr (9, [.ref tk, .ref tp, .ref tn, .ref tu, .ref tl, .int 0, .int 0, .int 0, .int (-1), .int 20, .ref tb, .int 1, .ref ts, .ref tf, .ref tz, .ref tx, .ref th, .ref tw])), (tk, .inl (kI, 3002, .inl fk))] H := hP
  have hD : va_D A [(g, .inr (3, [.ref h, .ref gi, .int 0, .int 0, .int 0, .int 0, .int 0])), (h, .inr (9, [.ref tk, .ref tp, .ref tn, .ref tu, .ref tl, .int 0, .int 0, .int 0, .int (-1), .int 20, .ref tb, .int 1, .ref ts, .ref tf, .ref tz, .ref tx, .ref th, .ref tw])), (tk, .inl (kI, 3002, .inl fk))] := hD
  have hK : va_K (dC, dI) vwCl [(kI, .int), (kI, .int)] s := hK
  have hK := hK.sub (tys' := [(kI, .int)]) [0] rfl
  have hP : va_P (dC, dI) vwCl [(g, .inr (3, [.ref h, .ref gi, .int 0, .int 0, .int 0, .int 0, .int 0])), (h, .inr (9, [.ref tk, .ref tp, .ref tn, .ref tu, .ref tl, .int 0, .int 0, .int 0, .int (-1), .int 20, .ref tb, .int 1, .ref ts, .ref tf, .ref tz, .ref tx, .ref th, .ref tw])), (tk, .inl (kI, 3002, .inl fk))] H := hP
  have hD : va_D A [(g, .inr (3, [.ref h, .ref gi, .int 0, .int 0, .int 0, .int 0, .int 0])), (h, .inr (9, [.ref tk, .ref tp, .ref tn, .ref tu, .ref tl, .int 0, .int 0, .int 0, .int (-1), .int 20, .ref tb, .int 1, .ref ts, .ref tf, .ref tz, .ref tx, .ref th, .ref tw])), (tk, .inl (kI, 3002, .inl fk))] := hD
  obtain rfl : r_2 = 0 := hw
  refine lv_if_eq (tgt := 84) hx hb dX3_program_31 (by decide) (fun _ => ?_) (fun c_3 => absurd (by decide) c_3)
  have hP9 := hP.sub (ws' := [(g, .inr (3, [.ref h, .ref gi, .int 0, .int 0, .int 0, .int 0, .int 0])), (h, .inr (9, [.ref tk, .ref tp, .ref tn, .ref tu, .ref tl, .int 0, .int 0, .int 0, .int (-1), .int 20, .ref tb, .int 1, .ref ts, .ref tf, .ref tz, .ref tx, .ref th, .ref tw])), (tk, .inl (kI, 3002, .inl fk))]) [0, 1, 2] rfl
  have hD9 := hD.sub (ws' := [(g, .inr (3, [.ref h, .ref gi, .int 0, .int 0, .int 0, .int 0, .int 0])), (h, .inr (9, [.ref tk, .ref tp, .ref tn, .ref tu, .ref tl, .int 0, .int 0, .int 0, .int (-1), .int 20, .ref tb, .int 1, .ref ts, .ref tf, .ref tz, .ref tx, .ref th, .ref tw])), (tk, .inl (kI, 3002, .inl fk))]) [0, 1, 2] (by decide) rfl
  have hK9 := hK.sub (tys' := [(kI, .int)]) [0] rfl
  exact W.vret hx hb hr (fun tS ht hW => ⟨⟨(), rfl, trivial, by rw [ht]; exact hP9, va_K.moved hW.alike hK9, hD9⟩, hS.F ht⟩) hS.2.2 dX3_program_84
end
section
def wf_c_fillI : List Cond := [.code yJ7_fill_53178 cJ7_fill_53178 4 none]
def wp_c_fillI : List Cond := wf_c_fillI ++ []
theorem wg_c_fillI : wf_c_fillI.all goodWord = true := by decide +kernel
theorem wm_c_fillI (k : Nat) {w : Cond} (h : wp_c_fillI[k]? = some w) : w ∈ wp_c_fillI := List.mem_of_getElem? h
set_option maxHeartbeats 4000000 in
set_option maxRecDepth 100000 in
theorem c_fillI (l : Launch) (dC : Nat → ClassId) (dI : Nat → Nat → Nat) (a : Nat) (kI : ClassId) (N : Nat) (f : Nat → Int32) (v : Int32) (sz : Nat) (hN : N < 2 ^ 31) : Met l yJ7_fill_53178 wp_c_fillI ({ frames := 0, cells := 0, slots := 0, locals := 0 }) (va_Pc [.ref a, .int v] (fun U => U.heap.size = sz ∧ va_P (dC, dI) vwCl [(a, .inl (kI, N, .inl f))] U.heap ∧ va_K (dC, dI) vwCl [(kI, .int)] U ∧ va_D (fun _ => True) [(a, .inl (kI, N, .inl f))])) (va_Qv (fun _ : Unit => True) (fun (_ : Unit) (t : State) => ∃ (g : Nat → Int32), (∀ j, j < N → g j = v) ∧ va_P (dC, dI) vwCl [(a, .inl (kI, N, .inl g))] t.heap ∧ va_K (dC, dI) vwCl [(kI, .int)] t ∧ va_D (va_A [(a, .inl (kI, N, .inl f))] sz) [(a, .inl (kI, N, .inl g))]) (va_A [(a, .inl (kI, N, .inl f))] sz)) 0 0 (va_A [(a, .inl (kI, N, .inl f))] sz) := by
  refine Met.ofW (cc := cJ7_fill_53178) (maxL := 4) (ret := none) (by decide) rfl ?_
  intro p e s m args below meth c s₁ B hml hv
  obtain ⟨rfl, hsz, hP, hK, hD0⟩ := hv
  have hx := B.exec
  have hb := B.bytes
  have hr := B.returns
  have hts := atoms_spec (ws := wp_c_fillI) B.pre
  have hown : s.vm.findClass RJ7 = some m.cls := findClass_of_methodNamed B.named
  have hlocks := B.notSynchronized
  subst hsz
  have hD := hD0.self (sz := s.heap.size)
  generalize hAe : va_A [(a, .inl (kI, N, .inl f))] s.heap.size = A at hD ⊢
  have hA : ∀ q : Nat, s.heap.size ≤ q → A q := fun q h => by rw [← hAe]; exact Or.inr h
  have hS : va_S A s.heap s.heap [] := va_S.rf
  have hP : va_P (dC, dI) vwCl [(a, .inl (kI, N, .inl f))] s.heap := hP
  have hl := lv_entry ([.ref a, .int v]) (n := 4) (Nat.le_of_ble_eq_true rfl)
  rw [lg_entry_eq]
  generalize (lg_sl ([.ref a, .int v]) ++ List.replicate (4 - (lg_sl ([.ref a, .int v])).length) Slot.unset).toArray = ls at hl ⊢
  have hl : lv_has ls 4 [(0, .ref a), (1, .int v)] := hl
  refine lv_iconst (v := 0) hx hb dJ7_fill_53178_0 (by decide) ?_
  refine lv_istore_n (lv' := [(2, .int 0), (0, .ref a), (1, .int v)]) hx hb dJ7_fill_53178_1 rfl hl (by decide) rfl (fun ls hl => ?_)
  refine lv_aload_n hx hb dJ7_fill_53178_2 rfl (lv_at hl 1 rfl) ?_
  refine va_alen (v := nI N) hx hb hK hP 0 0 rfl rfl rfl dJ7_fill_53178_3 ?_
  refine lv_istore_n (lv' := [(3, .int (nI N)), (2, .int 0), (0, .ref a), (1, .int v)]) hx hb dJ7_fill_53178_4 rfl hl (by decide) rfl (fun ls hl => ?_)
  refine W_q (fun Q1 hQ1 => ?_)
  have key1 : ∀ (n1 : Nat) (i : Nat) (f1 : Nat → Int32) (H : Heap) (locs : List Loc) (ls : Array Slot), (i + n1 = N + 1 ∧ i ≤ N) → (∀ j, j < i → f1 j = v) → va_P (dC, dI) vwCl [(a, .inl (kI, N, .inl f1))] H → va_D A [(a, .inl (kI, N, .inl f1))] → va_S A s.heap H locs → lv_has ls 4 [(2, .int (nI i)), (3, .int (nI N)), (0, .ref a), (1, .int v)] → W p l e (headSpec wp_c_fillI ({ frames := 0, cells := 0, slots := 0, locals := 0 })).room s m ([.ref a, .int v] : List Value).toArray below meth c H locs 0 0 Q1 (F0 m 5 ls []) := by
    intro n1
    induction n1 with
    | zero => intro i f1 H locs ls hb0 hb1; exact absurd hb0 (by omega)
    | succ n1 ih1 =>
      intro i f1 H locs ls hb0 hb1 hP hD hS hl
      refine lv_iload_n hx hb dJ7_fill_53178_5 rfl (lv_at hl 0 rfl) ?_
      refine lv_iload_n hx hb dJ7_fill_53178_6 rfl (lv_at hl 1 rfl) ?_
      refine lv_icmp_ge (tgt := 20) hx hb dJ7_fill_53178_7 (by decide) (fun hc => ?_) (fun hc => ?_)
      · have hi : i = N := by have h9 := (nI_leI (by omega) (by omega)).mp hc; omega
        have hP9 := hP.sub (ws' := [(a, .inl (kI, N, .inl f1))]) [0] rfl
        have hD9 := hD.sub (ws' := [(a, .inl (kI, N, .inl f1))]) [0] (by decide) rfl
        have hK9 := hK.sub (tys' := [(kI, .int)]) [0] rfl
        subst hQ1
        exact W.vret hx hb hr (fun tS ht hW => ⟨⟨(), rfl, trivial, f1, by intro j hj; exact hb1 j (by omega), by rw [ht]; exact hP9, va_K.moved hW.alike hK9, hD9⟩, hS.F ht⟩) hS.2.2 dJ7_fill_53178_20
      · have hi : i < N := by rcases Nat.lt_or_ge i N with q | q; exact q; exact absurd (nI_le q (by omega)) hc
        refine lv_aload_n hx hb dJ7_fill_53178_10 rfl (lv_at hl 2 rfl) ?_
        refine lv_iload_n hx hb dJ7_fill_53178_11 rfl (lv_at hl 0 rfl) ?_
        refine lv_iload_n hx hb dJ7_fill_53178_12 rfl (lv_at hl 3 rfl) ?_
        refine va_iast hx hb hK hP hD hS 0 0 rfl rfl (vp_in_nI hi hN) dJ7_fill_53178_13 (fun H locs hP hD hS => ?_)
        have hP : va_P (dC, dI) vwCl [(a, .inl (kI, N, .inl (upd f1 (nI i : Int32).toNatClampNeg v)))] H := hP
        have hD : va_D A [(a, .inl (kI, N, .inl (upd f1 (nI i : Int32).toNatClampNeg v)))] := hD
        obtain ⟨f2, ef2⟩ : ∃ z : Nat → Int32, z = upd f1 (nI i : Int32).toNatClampNeg v := ⟨_, rfl⟩
        rw [← ef2] at hP hD
        obtain ⟨x_1, ex_1⟩ : ∃ y : Int32, y = (nI i) + 1 := ⟨_, rfl⟩
        refine lv_iinc (v := x_1) (lv' := [(2, .int x_1), (3, .int (nI N)), (0, .ref a), (1, .int v)]) hx hb dJ7_fill_53178_14 hl (k := 0) rfl (by rw [ex_1]; rfl) (by decide) rfl (fun ls hl => ?_)
        obtain rfl : x_1 = nI (i + 1) := by rw [ex_1]; exact nI_1 i
        have hl : lv_has ls 4 [(2, .int (nI (i + 1))), (3, .int (nI N)), (0, .ref a), (1, .int v)] := hl
        refine lv_goto (tgt := 5) hx hb dJ7_fill_53178_17 (by decide) ?_
        exact ih1 (i + 1) f2 _ _ _ (by omega) (by intro j hj; rw [ef2, nI_clamp (by omega)]; rcases Nat.lt_or_ge j i with q | q; rw [pk_un (by omega)]; exact hb1 j q; obtain rfl : j = i := (by omega); exact pk_us) (hP.sub [0] rfl) (hD.sub [0] (by decide) rfl) hS (lv_sub hl [0, 1, 2, 3] rfl)
  exact key1 (N + 1) 0 f _ _ _ (by omega) (by intro j hj; exact absurd hj (by omega)) (hP.sub [0] rfl) (hD.sub [0] (by decide) rfl) hS (lv_sub hl [1, 0, 2, 3] rfl)
def wf_c_fillB : List Cond := [.code yJ7_fill_031fb cJ7_fill_031fb 4 none]
def wp_c_fillB : List Cond := wf_c_fillB ++ []
theorem wg_c_fillB : wf_c_fillB.all goodWord = true := by decide +kernel
theorem wm_c_fillB (k : Nat) {w : Cond} (h : wp_c_fillB[k]? = some w) : w ∈ wp_c_fillB := List.mem_of_getElem? h
set_option maxHeartbeats 4000000 in
set_option maxRecDepth 100000 in
theorem c_fillB (l : Launch) (dC : Nat → ClassId) (dI : Nat → Nat → Nat) (a : Nat) (kI : ClassId) (N : Nat) (f : Nat → Int32) (v : Int32) (sz : Nat) (hN : N < 2 ^ 31) : Met l yJ7_fill_031fb wp_c_fillB ({ frames := 0, cells := 0, slots := 0, locals := 0 }) (va_Pc [.ref a, .int v] (fun U => U.heap.size = sz ∧ va_P (dC, dI) vwCl [(a, .inl (kI, N, .inl f))] U.heap ∧ va_K (dC, dI) vwCl [(kI, .byte)] U ∧ va_D (fun _ => True) [(a, .inl (kI, N, .inl f))])) (va_Qv (fun _ : Unit => True) (fun (_ : Unit) (t : State) => ∃ (g : Nat → Int32), va_P (dC, dI) vwCl [(a, .inl (kI, N, .inl g))] t.heap ∧ va_K (dC, dI) vwCl [(kI, .byte)] t ∧ va_D (va_A [(a, .inl (kI, N, .inl f))] sz) [(a, .inl (kI, N, .inl g))]) (va_A [(a, .inl (kI, N, .inl f))] sz)) 0 0 (va_A [(a, .inl (kI, N, .inl f))] sz) := by
  refine Met.ofW (cc := cJ7_fill_031fb) (maxL := 4) (ret := none) (by decide) rfl ?_
  intro p e s m args below meth c s₁ B hml hv
  obtain ⟨rfl, hsz, hP, hK, hD0⟩ := hv
  have hx := B.exec
  have hb := B.bytes
  have hr := B.returns
  have hts := atoms_spec (ws := wp_c_fillB) B.pre
  have hown : s.vm.findClass RJ7 = some m.cls := findClass_of_methodNamed B.named
  have hlocks := B.notSynchronized
  subst hsz
  have hD := hD0.self (sz := s.heap.size)
  generalize hAe : va_A [(a, .inl (kI, N, .inl f))] s.heap.size = A at hD ⊢
  have hA : ∀ q : Nat, s.heap.size ≤ q → A q := fun q h => by rw [← hAe]; exact Or.inr h
  have hS : va_S A s.heap s.heap [] := va_S.rf
  have hP : va_P (dC, dI) vwCl [(a, .inl (kI, N, .inl f))] s.heap := hP
  have hl := lv_entry ([.ref a, .int v]) (n := 4) (Nat.le_of_ble_eq_true rfl)
  rw [lg_entry_eq]
  generalize (lg_sl ([.ref a, .int v]) ++ List.replicate (4 - (lg_sl ([.ref a, .int v])).length) Slot.unset).toArray = ls at hl ⊢
  have hl : lv_has ls 4 [(0, .ref a), (1, .int v)] := hl
  refine lv_iconst (v := 0) hx hb dJ7_fill_031fb_0 (by decide) ?_
  refine lv_istore_n (lv' := [(2, .int 0), (0, .ref a), (1, .int v)]) hx hb dJ7_fill_031fb_1 rfl hl (by decide) rfl (fun ls hl => ?_)
  refine lv_aload_n hx hb dJ7_fill_031fb_2 rfl (lv_at hl 1 rfl) ?_
  refine va_alen (v := nI N) hx hb hK hP 0 0 rfl rfl rfl dJ7_fill_031fb_3 ?_
  refine lv_istore_n (lv' := [(3, .int (nI N)), (2, .int 0), (0, .ref a), (1, .int v)]) hx hb dJ7_fill_031fb_4 rfl hl (by decide) rfl (fun ls hl => ?_)
  refine W_q (fun Q1 hQ1 => ?_)
  have key1 : ∀ (n1 : Nat) (i : Nat) (f1 : Nat → Int32) (H : Heap) (locs : List Loc) (ls : Array Slot), (i + n1 = N + 1 ∧ i ≤ N) → va_P (dC, dI) vwCl [(a, .inl (kI, N, .inl f1))] H → va_D A [(a, .inl (kI, N, .inl f1))] → va_S A s.heap H locs → lv_has ls 4 [(2, .int (nI i)), (3, .int (nI N)), (0, .ref a), (1, .int v)] → W p l e (headSpec wp_c_fillB ({ frames := 0, cells := 0, slots := 0, locals := 0 })).room s m ([.ref a, .int v] : List Value).toArray below meth c H locs 0 0 Q1 (F0 m 5 ls []) := by
    intro n1
    induction n1 with
    | zero => intro i f1 H locs ls hb0; exact absurd hb0 (by omega)
    | succ n1 ih1 =>
      intro i f1 H locs ls hb0 hP hD hS hl
      refine lv_iload_n hx hb dJ7_fill_031fb_5 rfl (lv_at hl 0 rfl) ?_
      refine lv_iload_n hx hb dJ7_fill_031fb_6 rfl (lv_at hl 1 rfl) ?_
      refine lv_icmp_ge (tgt := 20) hx hb dJ7_fill_031fb_7 (by decide) (fun hc => ?_) (fun hc => ?_)
      · have hi : i = N := by have h9 := (nI_leI (by omega) (by omega)).mp hc; omega
        have hP9 := hP.sub (ws' := [(a, .inl (kI, N, .inl f1))]) [0] rfl
        have hD9 := hD.sub (ws' := [(a, .inl (kI, N, .inl f1))]) [0] (by decide) rfl
        have hK9 := hK.sub (tys' := [(kI, .byte)]) [0] rfl
        subst hQ1
        exact W.vret hx hb hr (fun tS ht hW => ⟨⟨(), rfl, trivial, f1, by rw [ht]; exact hP9, va_K.moved hW.alike hK9, hD9⟩, hS.F ht⟩) hS.2.2 dJ7_fill_031fb_20
      · have hi : i < N := by rcases Nat.lt_or_ge i N with q | q; exact q; exact absurd (nI_le q (by omega)) hc
        refine lv_aload_n hx hb dJ7_fill_031fb_10 rfl (lv_at hl 2 rfl) ?_
        refine lv_iload_n hx hb dJ7_fill_031fb_11 rfl (lv_at hl 0 rfl) ?_
        refine lv_iload_n hx hb dJ7_fill_031fb_12 rfl (lv_at hl 3 rfl) ?_
        refine va_bast hx hb hK hP hD hS 0 0 rfl rfl (vp_in_nI hi hN) dJ7_fill_031fb_13 (fun H locs hP hD hS => ?_)
        have hP : va_P (dC, dI) vwCl [(a, .inl (kI, N, .inl (upd f1 (nI i : Int32).toNatClampNeg (vp_nar .byte v))))] H := hP
        have hD : va_D A [(a, .inl (kI, N, .inl (upd f1 (nI i : Int32).toNatClampNeg (vp_nar .byte v))))] := hD
        obtain ⟨f2, ef2⟩ : ∃ z : Nat → Int32, z = upd f1 (nI i : Int32).toNatClampNeg (vp_nar .byte v) := ⟨_, rfl⟩
        rw [← ef2] at hP hD
        obtain ⟨x_1, ex_1⟩ : ∃ y : Int32, y = (nI i) + 1 := ⟨_, rfl⟩
        refine lv_iinc (v := x_1) (lv' := [(2, .int x_1), (3, .int (nI N)), (0, .ref a), (1, .int v)]) hx hb dJ7_fill_031fb_14 hl (k := 0) rfl (by rw [ex_1]; rfl) (by decide) rfl (fun ls hl => ?_)
        obtain rfl : x_1 = nI (i + 1) := by rw [ex_1]; exact nI_1 i
        have hl : lv_has ls 4 [(2, .int (nI (i + 1))), (3, .int (nI N)), (0, .ref a), (1, .int v)] := hl
        refine lv_goto (tgt := 5) hx hb dJ7_fill_031fb_17 (by decide) ?_
        exact ih1 (i + 1) f2 _ _ _ (by omega) (hP.sub [0] rfl) (hD.sub [0] (by decide) rfl) hS (lv_sub hl [0, 1, 2, 3] rfl)
  exact key1 (N + 1) 0 f _ _ _ (by omega) (hP.sub [0] rfl) (hD.sub [0] (by decide) rfl) hS (lv_sub hl [1, 0, 2, 3] rfl)
end
section
/-- a String constant at t, its bytes at v (N of them), and what its members read besides -/
def sgA (t v N : Nat) (b : Nat → Int32) (A : Nat → Prop) (U : State) (H : Heap) : Prop := va_O "java/lang/String" t A U H ∧ va_OF "java/lang/String" "coder" "B" (.int 0) t A U H ∧ va_OF "java/lang/String" "value" "[B" (.ref v) t A U H ∧ va_T .byte v N (fun j => .int (b j)) A U H ∧ va_Z "java/lang/String" "COMPACT_STRINGS" "Z" (.int 1) A U H
theorem sgA.moved {t v N : Nat} {b : Nat → Int32} {A : Nat → Prop} {u U : State} {H : Heap} (hvm : u.vm.Alike U.vm) (h : sgA t v N b A u H) : sgA t v N b A U H := ⟨h.1.moved hvm, h.2.1.moved hvm, h.2.2.1.moved hvm, h.2.2.2.1.moved hvm, h.2.2.2.2.moved hvm⟩
theorem sgA.kept {t v N : Nat} {b : Nat → Int32} {A : Nat → Prop} {U : State} {H H1 : Heap} (h : sgA t v N b A U H) (hq : ∀ a : Nat, a < H.size → ¬ A a → H1[a]? = H[a]?) : sgA t v N b A U H1 := ⟨h.1.kept hq, h.2.1.kept hq, h.2.2.1.kept hq, h.2.2.2.1.kept hq, h.2.2.2.2.kept hq⟩
theorem sgA.narrow {t v N : Nat} {b : Nat → Int32} {A B : Nat → Prop} {U : State} {H : Heap} (h : sgA t v N b A U H) (hAB : ∀ q, B q → A q) : sgA t v N b B U H := ⟨h.1.narrow hAB, h.2.1.narrow hAB, h.2.2.1.narrow hAB, h.2.2.2.1.narrow hAB, h.2.2.2.2.narrow hAB⟩
/-- the formatter's static: a reference or null -/
def sgF (A : Nat → Prop) (U : State) (H : Heap) : Prop := va_Z "jdk/internal/util/Preconditions" "SIOOBE_FORMATTER" "Ljava/util/function/BiFunction;" .null A U H ∨ ∃ x : Nat, va_Z "jdk/internal/util/Preconditions" "SIOOBE_FORMATTER" "Ljava/util/function/BiFunction;" (.ref x) A U H
theorem sgF.moved {A : Nat → Prop} {u U : State} {H : Heap} (hvm : u.vm.Alike U.vm) (h : sgF A u H) : sgF A U H := h.elim (fun q => Or.inl (q.moved hvm)) (fun ⟨x, q⟩ => Or.inr ⟨x, q.moved hvm⟩)
theorem sgF.kept {A : Nat → Prop} {U : State} {H H1 : Heap} (h : sgF A U H) (hq : ∀ a : Nat, a < H.size → ¬ A a → H1[a]? = H[a]?) : sgF A U H1 := h.elim (fun q => Or.inl (q.kept hq)) (fun ⟨x, q⟩ => Or.inr ⟨x, q.kept hq⟩)
theorem sgF.narrow {A B : Nat → Prop} {U : State} {H : Heap} (h : sgF A U H) (hAB : ∀ q, B q → A q) : sgF B U H := h.elim (fun q => Or.inl (q.narrow hAB)) (fun ⟨x, q⟩ => Or.inr ⟨x, q.narrow hAB⟩)
def wf_c_coder : List Cond := [.code yJ0_coder_7d493 cJ0_coder_7d493 1 (some .byte), .fieldLink RJ0 38 "java/lang/String" "COMPACT_STRINGS" "Z", .fieldLink RJ0 15 "java/lang/String" "coder" "B"]
def wp_c_coder : List Cond := wf_c_coder ++ []
theorem wg_c_coder : wf_c_coder.all goodWord = true := by decide +kernel
theorem wm_c_coder (k : Nat) {w : Cond} (h : wp_c_coder[k]? = some w) : w ∈ wp_c_coder := List.mem_of_getElem? h
set_option maxHeartbeats 4000000 in
set_option maxRecDepth 100000 in
theorem c_coder (l : Launch) (dC : Nat → ClassId) (dI : Nat → Nat → Nat) (t v N : Nat) (b : Nat → Int32) (sz : Nat) : Met l yJ0_coder_7d493 wp_c_coder ({ frames := 0, cells := 0, slots := 0, locals := 0 }) (va_Pc [.ref t] (fun U => U.heap.size = sz ∧ va_P (dC, dI) vwCl [] U.heap ∧ va_K (dC, dI) vwCl [] U ∧ va_D (fun _ => True) [] ∧ sgA t v N b (va_A [] sz) U U.heap)) (va_Qi (fun (r : Int32) (_ : Unit) => r = 0) (fun (_ : Unit) (t : State) => va_P (dC, dI) vwCl [] t.heap ∧ va_K (dC, dI) vwCl [] t ∧ va_D (va_A [] sz) []) (va_A [] sz)) 0 0 (va_A [] sz) := by
  refine Met.ofW (cc := cJ0_coder_7d493) (maxL := 1) (ret := (some .byte)) (by decide) rfl ?_
  intro p e s m args below meth c s₁ B hml hv
  obtain ⟨rfl, hsz, hP, hK, hD0, hpre0⟩ := hv
  have hx := B.exec
  have hb := B.bytes
  have hr := B.returns
  have hts := atoms_spec (ws := wp_c_coder) B.pre
  have hown : s.vm.findClass RJ0 = some m.cls := findClass_of_methodNamed B.named
  have hlocks := B.notSynchronized
  subst hsz
  have hD := hD0.self (sz := s.heap.size)
  generalize hAe : va_A [] s.heap.size = A at hD hpre0 ⊢
  have hA : ∀ q : Nat, s.heap.size ≤ q → A q := fun q h => by rw [← hAe]; exact Or.inr h
  have hS : va_S A s.heap s.heap [] := va_S.rf
  have hP : va_P (dC, dI) vwCl [] s.heap := hP
  have hl := lv_entry ([.ref t]) (n := 1) (Nat.le_of_ble_eq_true rfl)
  rw [lg_entry_eq]
  generalize (lg_sl ([.ref t]) ++ List.replicate (1 - (lg_sl ([.ref t])).length) Slot.unset).toArray = ls at hl ⊢
  have hl : lv_has ls 1 [(0, .ref t)] := hl
  refine va_gets (v := .int 1) hx hb hpre0.2.2.2.2 hS hown (hts (.fieldLink RJ0 38 "java/lang/String" "COMPACT_STRINGS" "Z") (wm_c_coder 1 rfl)) (fun _ h9 => h9) dJ0_coder_7d493_0 ?_
  refine lv_if_eq (tgt := 13) hx hb dJ0_coder_7d493_3 (by decide) (fun c_1 => absurd c_1 (by decide)) (fun _ => ?_)
  refine lv_aload_n hx hb dJ0_coder_7d493_6 rfl (lv_at hl 0 rfl) ?_
  refine vk_getf (v := .int 0) hx hb hpre0.2.1 hS hown (hts (.fieldLink RJ0 15 "java/lang/String" "coder" "B") (wm_c_coder 2 rfl)) (fun _ h9 => h9) dJ0_coder_7d493_7 ?_
  refine lv_goto (tgt := 14) hx hb dJ0_coder_7d493_10 (by decide) ?_
  have hP9 := hP.sub (ws' := []) [] rfl
  have hD9 := hD.sub (ws' := []) [] (by decide) rfl
  have hK9 := hK.sub (tys' := []) [] rfl
  exact W.zret (v := 0) hx hb hr (by decide) (fun tS ht hW => ⟨⟨0, (), rfl, rfl, by rw [ht]; exact hP9, va_K.moved hW.alike hK9, hD9⟩, hS.F ht⟩) hS.2.2 dJ0_coder_7d493_14
def wf_c_latin : List Cond := [.code yJ0_isLatin1_aae02 cJ0_isLatin1_aae02 1 (some .boolean), .fieldLink RJ0 38 "java/lang/String" "COMPACT_STRINGS" "Z", .fieldLink RJ0 15 "java/lang/String" "coder" "B"]
def wp_c_latin : List Cond := wf_c_latin ++ []
theorem wg_c_latin : wf_c_latin.all goodWord = true := by decide +kernel
theorem wm_c_latin (k : Nat) {w : Cond} (h : wp_c_latin[k]? = some w) : w ∈ wp_c_latin := List.mem_of_getElem? h
set_option maxHeartbeats 4000000 in
set_option maxRecDepth 100000 in
theorem c_latin (l : Launch) (dC : Nat → ClassId) (dI : Nat → Nat → Nat) (t v N : Nat) (b : Nat → Int32) (sz : Nat) : Met l yJ0_isLatin1_aae02 wp_c_latin ({ frames := 0, cells := 0, slots := 0, locals := 0 }) (va_Pc [.ref t] (fun U => U.heap.size = sz ∧ va_P (dC, dI) vwCl [] U.heap ∧ va_K (dC, dI) vwCl [] U ∧ va_D (fun _ => True) [] ∧ sgA t v N b (va_A [] sz) U U.heap)) (va_Qi (fun (r : Int32) (_ : Unit) => r = 1) (fun (_ : Unit) (t : State) => va_P (dC, dI) vwCl [] t.heap ∧ va_K (dC, dI) vwCl [] t ∧ va_D (va_A [] sz) []) (va_A [] sz)) 0 0 (va_A [] sz) := by
  refine Met.ofW (cc := cJ0_isLatin1_aae02) (maxL := 1) (ret := (some .boolean)) (by decide) rfl ?_
  intro p e s m args below meth c s₁ B hml hv
  obtain ⟨rfl, hsz, hP, hK, hD0, hpre0⟩ := hv
  have hx := B.exec
  have hb := B.bytes
  have hr := B.returns
  have hts := atoms_spec (ws := wp_c_latin) B.pre
  have hown : s.vm.findClass RJ0 = some m.cls := findClass_of_methodNamed B.named
  have hlocks := B.notSynchronized
  subst hsz
  have hD := hD0.self (sz := s.heap.size)
  generalize hAe : va_A [] s.heap.size = A at hD hpre0 ⊢
  have hA : ∀ q : Nat, s.heap.size ≤ q → A q := fun q h => by rw [← hAe]; exact Or.inr h
  have hS : va_S A s.heap s.heap [] := va_S.rf
  have hP : va_P (dC, dI) vwCl [] s.heap := hP
  have hl := lv_entry ([.ref t]) (n := 1) (Nat.le_of_ble_eq_true rfl)
  rw [lg_entry_eq]
  generalize (lg_sl ([.ref t]) ++ List.replicate (1 - (lg_sl ([.ref t])).length) Slot.unset).toArray = ls at hl ⊢
  have hl : lv_has ls 1 [(0, .ref t)] := hl
  refine va_gets (v := .int 1) hx hb hpre0.2.2.2.2 hS hown (hts (.fieldLink RJ0 38 "java/lang/String" "COMPACT_STRINGS" "Z") (wm_c_latin 1 rfl)) (fun _ h9 => h9) dJ0_isLatin1_aae02_0 ?_
  refine lv_if_eq (tgt := 17) hx hb dJ0_isLatin1_aae02_3 (by decide) (fun c_1 => absurd c_1 (by decide)) (fun _ => ?_)
  refine lv_aload_n hx hb dJ0_isLatin1_aae02_6 rfl (lv_at hl 0 rfl) ?_
  refine vk_getf (v := .int 0) hx hb hpre0.2.1 hS hown (hts (.fieldLink RJ0 15 "java/lang/String" "coder" "B") (wm_c_latin 2 rfl)) (fun _ h9 => h9) dJ0_isLatin1_aae02_7 ?_
  refine lv_if_ne (tgt := 17) hx hb dJ0_isLatin1_aae02_10 (by decide) (fun c_2 => absurd c_2 (by decide)) (fun _ => ?_)
  refine lv_iconst (v := 1) hx hb dJ0_isLatin1_aae02_13 (by decide) ?_
  refine lv_goto (tgt := 18) hx hb dJ0_isLatin1_aae02_14 (by decide) ?_
  have hP9 := hP.sub (ws' := []) [] rfl
  have hD9 := hD.sub (ws' := []) [] (by decide) rfl
  have hK9 := hK.sub (tys' := []) [] rfl
  exact W.zret (v := 1) hx hb hr (by decide) (fun tS ht hW => ⟨⟨1, (), rfl, rfl, by rw [ht]; exact hP9, va_K.moved hW.alike hK9, hD9⟩, hS.F ht⟩) hS.2.2 dJ0_isLatin1_aae02_18
def wf_c_length : List Cond := [.code yJ0_length_8abf5 cJ0_length_8abf5 1 (some .int), .fieldLink RJ0 9 "java/lang/String" "value" "[B", .code yJ0_coder_7d493 cJ0_coder_7d493 1 (some .byte), .fieldLink RJ0 38 "java/lang/String" "COMPACT_STRINGS" "Z", .fieldLink RJ0 15 "java/lang/String" "coder" "B", .methodLink RJ0 335 yJ0_coder_7d493, .instanceMethod yJ0_coder_7d493, .selects RJ0 yJ0_coder_7d493 yJ0_coder_7d493, .initialized RJ0]
def wp_c_length : List Cond := wf_c_length ++ []
theorem wg_c_length : wf_c_length.all goodWord = true := by decide +kernel
theorem wm_c_length (k : Nat) {w : Cond} (h : wp_c_length[k]? = some w) : w ∈ wp_c_length := List.mem_of_getElem? h
set_option maxRecDepth 20000 in
theorem g_c_length_c_coder_6 : GoodIn wp_c_length (wsV RJ0 335 RJ0 yJ0_coder_7d493 wp_c_coder) := goodIn_app (goodIn_f [.methodLink RJ0 335 yJ0_coder_7d493, .instanceMethod yJ0_coder_7d493, .selects RJ0 yJ0_coder_7d493 yJ0_coder_7d493, .initialized RJ0] [5, 6, 7, 8] rfl (by decide +kernel)) (goodIn_app (goodIn_f (wf_c_coder) [2, 3, 4] rfl wg_c_coder) (goodIn_n))
set_option maxHeartbeats 4000000 in
set_option maxRecDepth 100000 in
theorem c_length (l : Launch) (dC : Nat → ClassId) (dI : Nat → Nat → Nat) (t v N : Nat) (b : Nat → Int32) (sz : Nat) (hN : N < 2 ^ 31) : Met l yJ0_length_8abf5 wp_c_length ({ frames := 1, cells := 0, slots := 0, locals := 20 }) (va_Pc [.ref t] (fun U => U.heap.size = sz ∧ va_P (dC, dI) vwCl [] U.heap ∧ va_K (dC, dI) vwCl [] U ∧ va_D (fun _ => True) [] ∧ sgA t v N b (va_A [] sz) U U.heap)) (va_Qi (fun (r : Int32) (_ : Unit) => r = nI N) (fun (_ : Unit) (t : State) => va_P (dC, dI) vwCl [] t.heap ∧ va_K (dC, dI) vwCl [] t ∧ va_D (va_A [] sz) []) (va_A [] sz)) 0 0 (va_A [] sz) := by
  refine Met.ofW (cc := cJ0_length_8abf5) (maxL := 1) (ret := (some .int)) (by decide) rfl ?_
  intro p e s m args below meth c s₁ B hml hv
  obtain ⟨rfl, hsz, hP, hK, hD0, hpre0⟩ := hv
  have hx := B.exec
  have hb := B.bytes
  have hr := B.returns
  have hts := atoms_spec (ws := wp_c_length) B.pre
  have hown : s.vm.findClass RJ0 = some m.cls := findClass_of_methodNamed B.named
  have hlocks := B.notSynchronized
  subst hsz
  have hD := hD0.self (sz := s.heap.size)
  generalize hAe : va_A [] s.heap.size = A at hD hpre0 ⊢
  have hA : ∀ q : Nat, s.heap.size ≤ q → A q := fun q h => by rw [← hAe]; exact Or.inr h
  have hS : va_S A s.heap s.heap [] := va_S.rf
  have hP : va_P (dC, dI) vwCl [] s.heap := hP
  have hl := lv_entry ([.ref t]) (n := 1) (Nat.le_of_ble_eq_true rfl)
  rw [lg_entry_eq]
  generalize (lg_sl ([.ref t]) ++ List.replicate (1 - (lg_sl ([.ref t])).length) Slot.unset).toArray = ls at hl ⊢
  have hl : lv_has ls 1 [(0, .ref t)] := hl
  refine lv_aload_n hx hb dJ0_length_8abf5_0 rfl (lv_at hl 0 rfl) ?_
  refine vk_getf (v := .ref v) hx hb hpre0.2.2.1 hS hown (hts (.fieldLink RJ0 9 "java/lang/String" "value" "[B") (wm_c_length 1 rfl)) (fun _ h9 => h9) dJ0_length_8abf5_1 ?_
  refine va_tlen (v := nI N) hx hb hpre0.2.2.2.1 hS rfl dJ0_length_8abf5_4 ?_
  refine lv_aload_n hx hb dJ0_length_8abf5_5 rfl (lv_at hl 0 rfl) ?_
  have hPc := hP.sub (ws' := []) [] rfl
  have hDc := hD.sub (ws' := []) [] (by decide) rfl
  have hKc := hK.sub (tys' := []) [] rfl
  have hFc := va_free (wc := []) hD hS hA [] rfl
  refine va_calli (va_runV (As := []) (rest := [.int (nI N)]) ⟨hx, hb, hml, hown, hts⟩ (c_coder l dC dI t v N b s.heap.size) (cwV 0 hts g_c_length_c_coder_6 rfl rfl rfl (by decide +kernel) ⟨Nat.le_of_ble_eq_true rfl, Nat.le_of_ble_eq_true rfl⟩) ⟨fun a U g mk q => by obtain ⟨q0, q1, qP, qK, qD, qx0⟩ := q; exact ⟨q0, q1, qP, va_K.moved (u := U) (U := U.calling g mk a) (Vm.Alike.refl U.vm) qK, qD, sgA.moved (u := U) (U := U.calling g mk a) (Vm.Alike.refl U.vm) qx0⟩, va_Orecv hpre0.1 hS, fun U hU hW => ⟨rfl, by rw [hU], by rw [hU]; exact hPc, va_K.moved hW.alike hKc, hDc.weaken (fun _ _ _ _ => trivial), by rw [hU]; exact ((hpre0.kept hS.2.1).moved hW.alike).narrow hFc⟩⟩ rfl rfl hl.1 rfl (lv_room (Nat.le_of_ble_eq_true rfl)) dJ0_length_8abf5_6 ⟨(show 0 + 0 ≤ 0 by omega), (show 0 + 0 ≤ 0 by omega)⟩) hS (fun q _ h => hFc q h) hFc (fun r_1 u tS H1 locs ht hvm hw hB hz1 hk1 hS => ?_)
  obtain ⟨hP1, hK1, hD1⟩ := hB
  rw [ht] at hP1
  have hK1 := va_K.moved hvm.symm hK1
  obtain ⟨hP, hD⟩ := va_join (wr := []) (w1 := []) hP hD [] [] rfl rfl (by decide) (by decide) hk1 hFc hP1 hD1
  generalize H1 = H at hP hS ⊢
  have hP : va_P (dC, dI) vwCl [] H := hP
  have hD : va_D A [] := hD
  have hK : va_K (dC, dI) vwCl [] s := hK
  obtain rfl : r_1 = 0 := hw
  refine lv_ishr hx hb dJ0_length_8abf5_9 ?_
  refine lv_topi (fun f_2 ef_2 => ?_)
  have e9 : f_2 = nI N := ef_2.trans (sb_shr0 _)
  have hP9 := hP.sub (ws' := []) [] rfl
  have hD9 := hD.sub (ws' := []) [] (by decide) rfl
  have hK9 := hK.sub (tys' := []) [] rfl
  exact W.iret (v := f_2) hx hb hr (fun tS ht hW => ⟨⟨f_2, (), rfl, e9, by rw [ht]; exact hP9, va_K.moved hW.alike hK9, hD9⟩, hS.F ht⟩) hS.2.2 dJ0_length_8abf5_10
def wf_c_preN : List Cond := [.code yJ3_checkIndex_8e157 cJ3_checkIndex_8e157 3 (some .int)]
def wp_c_preN : List Cond := wf_c_preN ++ []
theorem wg_c_preN : wf_c_preN.all goodWord = true := by decide +kernel
theorem wm_c_preN (k : Nat) {w : Cond} (h : wp_c_preN[k]? = some w) : w ∈ wp_c_preN := List.mem_of_getElem? h
set_option maxHeartbeats 4000000 in
set_option maxRecDepth 100000 in
theorem c_preN (l : Launch) (dC : Nat → ClassId) (dI : Nat → Nat → Nat) (i n : Nat) (sz : Nat) (hi : i < n) (hn : n < 2 ^ 31) : Met l yJ3_checkIndex_8e157 wp_c_preN ({ frames := 0, cells := 0, slots := 0, locals := 0 }) (va_Pc [.int (nI i), .int (nI n), .null] (fun U => U.heap.size = sz ∧ va_P (dC, dI) vwCl [] U.heap ∧ va_K (dC, dI) vwCl [] U ∧ va_D (fun _ => True) [])) (va_Qi (fun (_ : Int32) (_ : Unit) => True) (fun (_ : Unit) (t : State) => va_P (dC, dI) vwCl [] t.heap ∧ va_K (dC, dI) vwCl [] t ∧ va_D (va_A [] sz) []) (va_A [] sz)) 0 0 (va_A [] sz) := by
  refine Met.ofW (cc := cJ3_checkIndex_8e157) (maxL := 3) (ret := (some .int)) (by decide) rfl ?_
  intro p e s m args below meth c s₁ B hml hv
  obtain ⟨rfl, hsz, hP, hK, hD0⟩ := hv
  have hx := B.exec
  have hb := B.bytes
  have hr := B.returns
  have hts := atoms_spec (ws := wp_c_preN) B.pre
  have hown : s.vm.findClass RJ3 = some m.cls := findClass_of_methodNamed B.named
  have hlocks := B.notSynchronized
  subst hsz
  have hD := hD0.self (sz := s.heap.size)
  generalize hAe : va_A [] s.heap.size = A at hD ⊢
  have hA : ∀ q : Nat, s.heap.size ≤ q → A q := fun q h => by rw [← hAe]; exact Or.inr h
  have hS : va_S A s.heap s.heap [] := va_S.rf
  have hP : va_P (dC, dI) vwCl [] s.heap := hP
  have hl := lv_entry ([.int (nI i), .int (nI n), .null]) (n := 3) (Nat.le_of_ble_eq_true rfl)
  rw [lg_entry_eq]
  generalize (lg_sl ([.int (nI i), .int (nI n), .null]) ++ List.replicate (3 - (lg_sl ([.int (nI i), .int (nI n), .null])).length) Slot.unset).toArray = ls at hl ⊢
  have hl : lv_has ls 3 [(0, .int (nI i)), (1, .int (nI n)), (2, .null)] := hl
  refine lv_iload_n hx hb dJ3_checkIndex_8e157_0 rfl (lv_at hl 0 rfl) ?_
  refine lv_if_lt (tgt := 9) hx hb dJ3_checkIndex_8e157_1 (by decide) (fun c_1 => absurd c_1 (nI_pos (by omega))) (fun _ => ?_)
  refine lv_iload_n hx hb dJ3_checkIndex_8e157_4 rfl (lv_at hl 0 rfl) ?_
  refine lv_iload_n hx hb dJ3_checkIndex_8e157_5 rfl (lv_at hl 1 rfl) ?_
  refine lv_icmp_lt (tgt := 16) hx hb dJ3_checkIndex_8e157_6 (by decide) (fun _ => ?_) (fun c_2 => absurd (nI_lt hi hn) c_2)
  refine lv_iload_n hx hb dJ3_checkIndex_8e157_16 rfl (lv_at hl 0 rfl) ?_
  have hP9 := hP.sub (ws' := []) [] rfl
  have hD9 := hD.sub (ws' := []) [] (by decide) rfl
  have hK9 := hK.sub (tys' := []) [] rfl
  exact W.iret (v := nI i) hx hb hr (fun tS ht hW => ⟨⟨(nI i), (), rfl, trivial, by rw [ht]; exact hP9, va_K.moved hW.alike hK9, hD9⟩, hS.F ht⟩) hS.2.2 dJ3_checkIndex_8e157_17
def wf_c_preR : List Cond := [.code yJ3_checkIndex_8e157 cJ3_checkIndex_8e157 3 (some .int)]
def wp_c_preR : List Cond := wf_c_preR ++ []
theorem wg_c_preR : wf_c_preR.all goodWord = true := by decide +kernel
theorem wm_c_preR (k : Nat) {w : Cond} (h : wp_c_preR[k]? = some w) : w ∈ wp_c_preR := List.mem_of_getElem? h
set_option maxHeartbeats 4000000 in
set_option maxRecDepth 100000 in
theorem c_preR (l : Launch) (dC : Nat → ClassId) (dI : Nat → Nat → Nat) (i n : Nat) (x : Nat) (sz : Nat) (hi : i < n) (hn : n < 2 ^ 31) : Met l yJ3_checkIndex_8e157 wp_c_preR ({ frames := 0, cells := 0, slots := 0, locals := 0 }) (va_Pc [.int (nI i), .int (nI n), .ref x] (fun U => U.heap.size = sz ∧ va_P (dC, dI) vwCl [] U.heap ∧ va_K (dC, dI) vwCl [] U ∧ va_D (fun _ => True) [])) (va_Qi (fun (_ : Int32) (_ : Unit) => True) (fun (_ : Unit) (t : State) => va_P (dC, dI) vwCl [] t.heap ∧ va_K (dC, dI) vwCl [] t ∧ va_D (va_A [] sz) []) (va_A [] sz)) 0 0 (va_A [] sz) := by
  refine Met.ofW (cc := cJ3_checkIndex_8e157) (maxL := 3) (ret := (some .int)) (by decide) rfl ?_
  intro p e s m args below meth c s₁ B hml hv
  obtain ⟨rfl, hsz, hP, hK, hD0⟩ := hv
  have hx := B.exec
  have hb := B.bytes
  have hr := B.returns
  have hts := atoms_spec (ws := wp_c_preR) B.pre
  have hown : s.vm.findClass RJ3 = some m.cls := findClass_of_methodNamed B.named
  have hlocks := B.notSynchronized
  subst hsz
  have hD := hD0.self (sz := s.heap.size)
  generalize hAe : va_A [] s.heap.size = A at hD ⊢
  have hA : ∀ q : Nat, s.heap.size ≤ q → A q := fun q h => by rw [← hAe]; exact Or.inr h
  have hS : va_S A s.heap s.heap [] := va_S.rf
  have hP : va_P (dC, dI) vwCl [] s.heap := hP
  have hl := lv_entry ([.int (nI i), .int (nI n), .ref x]) (n := 3) (Nat.le_of_ble_eq_true rfl)
  rw [lg_entry_eq]
  generalize (lg_sl ([.int (nI i), .int (nI n), .ref x]) ++ List.replicate (3 - (lg_sl ([.int (nI i), .int (nI n), .ref x])).length) Slot.unset).toArray = ls at hl ⊢
  have hl : lv_has ls 3 [(0, .int (nI i)), (1, .int (nI n)), (2, .ref x)] := hl
  refine lv_iload_n hx hb dJ3_checkIndex_8e157_0 rfl (lv_at hl 0 rfl) ?_
  refine lv_if_lt (tgt := 9) hx hb dJ3_checkIndex_8e157_1 (by decide) (fun c_1 => absurd c_1 (nI_pos (by omega))) (fun _ => ?_)
  refine lv_iload_n hx hb dJ3_checkIndex_8e157_4 rfl (lv_at hl 0 rfl) ?_
  refine lv_iload_n hx hb dJ3_checkIndex_8e157_5 rfl (lv_at hl 1 rfl) ?_
  refine lv_icmp_lt (tgt := 16) hx hb dJ3_checkIndex_8e157_6 (by decide) (fun _ => ?_) (fun c_2 => absurd (nI_lt hi hn) c_2)
  refine lv_iload_n hx hb dJ3_checkIndex_8e157_16 rfl (lv_at hl 0 rfl) ?_
  have hP9 := hP.sub (ws' := []) [] rfl
  have hD9 := hD.sub (ws' := []) [] (by decide) rfl
  have hK9 := hK.sub (tys' := []) [] rfl
  exact W.iret (v := nI i) hx hb hr (fun tS ht hW => ⟨⟨(nI i), (), rfl, trivial, by rw [ht]; exact hP9, va_K.moved hW.alike hK9, hD9⟩, hS.F ht⟩) hS.2.2 dJ3_checkIndex_8e157_17
def wf_c_check : List Cond := [.code yJ0_checkIndex_df160 cJ0_checkIndex_df160 2 none, .fieldLink RJ0 1053 "jdk/internal/util/Preconditions" "SIOOBE_FORMATTER" "Ljava/util/function/BiFunction;", .code yJ3_checkIndex_8e157 cJ3_checkIndex_8e157 3 (some .int), .methodLink RJ0 1059 yJ3_checkIndex_8e157, .static yJ3_checkIndex_8e157, .initialized RJ3]
def wp_c_check : List Cond := wf_c_check ++ []
theorem wg_c_check : wf_c_check.all goodWord = true := by decide +kernel
theorem wm_c_check (k : Nat) {w : Cond} (h : wp_c_check[k]? = some w) : w ∈ wp_c_check := List.mem_of_getElem? h
set_option maxRecDepth 20000 in
theorem g_c_check_c_preN_5 : GoodIn wp_c_check (va_wsS RJ0 1059 yJ3_checkIndex_8e157 wp_c_preN) := goodIn_app (goodIn_f [.methodLink RJ0 1059 yJ3_checkIndex_8e157, .static yJ3_checkIndex_8e157, .initialized RJ3] [3, 4, 5] rfl (by decide +kernel)) (goodIn_app (goodIn_f (wf_c_preN) [2] rfl wg_c_preN) (goodIn_n))
set_option maxRecDepth 20000 in
theorem g_c_check_c_preR_5 : GoodIn wp_c_check (va_wsS RJ0 1059 yJ3_checkIndex_8e157 wp_c_preR) := goodIn_app (goodIn_f [.methodLink RJ0 1059 yJ3_checkIndex_8e157, .static yJ3_checkIndex_8e157, .initialized RJ3] [3, 4, 5] rfl (by decide +kernel)) (goodIn_app (goodIn_f (wf_c_preR) [2] rfl wg_c_preR) (goodIn_n))
set_option maxHeartbeats 4000000 in
set_option maxRecDepth 100000 in
theorem c_check (l : Launch) (dC : Nat → ClassId) (dI : Nat → Nat → Nat) (i n : Nat) (sz : Nat) (hi : i < n) (hn : n < 2 ^ 31) : Met l yJ0_checkIndex_df160 wp_c_check ({ frames := 1, cells := 0, slots := 0, locals := 22 }) (va_Pc [.int (nI i), .int (nI n)] (fun U => U.heap.size = sz ∧ va_P (dC, dI) vwCl [] U.heap ∧ va_K (dC, dI) vwCl [] U ∧ va_D (fun _ => True) [] ∧ sgF (va_A [] sz) U U.heap)) (va_Qv (fun _ : Unit => True) (fun (_ : Unit) (t : State) => va_P (dC, dI) vwCl [] t.heap ∧ va_K (dC, dI) vwCl [] t ∧ va_D (va_A [] sz) []) (va_A [] sz)) 0 0 (va_A [] sz) := by
  refine Met.ofW (cc := cJ0_checkIndex_df160) (maxL := 2) (ret := none) (by decide) rfl ?_
  intro p e s m args below meth c s₁ B hml hv
  obtain ⟨rfl, hsz, hP, hK, hD0, hpre0⟩ := hv
  have hx := B.exec
  have hb := B.bytes
  have hr := B.returns
  have hts := atoms_spec (ws := wp_c_check) B.pre
  have hown : s.vm.findClass RJ0 = some m.cls := findClass_of_methodNamed B.named
  have hlocks := B.notSynchronized
  subst hsz
  have hD := hD0.self (sz := s.heap.size)
  generalize hAe : va_A [] s.heap.size = A at hD hpre0 ⊢
  have hA : ∀ q : Nat, s.heap.size ≤ q → A q := fun q h => by rw [← hAe]; exact Or.inr h
  have hS : va_S A s.heap s.heap [] := va_S.rf
  have hP : va_P (dC, dI) vwCl [] s.heap := hP
  have hl := lv_entry ([.int (nI i), .int (nI n)]) (n := 2) (Nat.le_of_ble_eq_true rfl)
  rw [lg_entry_eq]
  generalize (lg_sl ([.int (nI i), .int (nI n)]) ++ List.replicate (2 - (lg_sl ([.int (nI i), .int (nI n)])).length) Slot.unset).toArray = ls at hl ⊢
  have hl : lv_has ls 2 [(0, .int (nI i)), (1, .int (nI n))] := hl
  refine lv_iload_n hx hb dJ0_checkIndex_df160_0 rfl (lv_at hl 0 rfl) ?_
  refine lv_iload_n hx hb dJ0_checkIndex_df160_1 rfl (lv_at hl 1 rfl) ?_
  rcases hpre0 with hpre0 | ⟨x, hpre0⟩
  · refine va_gets (v := .null) hx hb hpre0 hS hown (hts (.fieldLink RJ0 1053 "jdk/internal/util/Preconditions" "SIOOBE_FORMATTER" "Ljava/util/function/BiFunction;") (wm_c_check 1 rfl)) (fun _ h9 => h9) dJ0_checkIndex_df160_2 ?_
    have hPc := hP.sub (ws' := []) [] rfl
    have hDc := hD.sub (ws' := []) [] (by decide) rfl
    have hKc := hK.sub (tys' := []) [] rfl
    have hFc := va_free (wc := []) hD hS hA [] rfl
    refine va_calli (va_runS (As := [.int (nI i), .int (nI n), .null]) (rest := []) ⟨hx, hb, hml, hown, hts⟩ (c_preN l dC dI i n s.heap.size hi hn) (va_cwS 3 hts g_c_check_c_preN_5 rfl rfl rfl (by decide +kernel) ⟨Nat.le_of_ble_eq_true rfl, Nat.le_of_ble_eq_true rfl⟩) ⟨fun a U g mk q => by obtain ⟨q0, q1, qP, qK, qD⟩ := q; exact ⟨q0, q1, qP, va_K.moved (u := U) (U := U.calling g mk a) (Vm.Alike.refl U.vm) qK, qD⟩, fun U hU hW => ⟨rfl, by rw [hU], by rw [hU]; exact hPc, va_K.moved hW.alike hKc, hDc.weaken (fun _ _ _ _ => trivial)⟩⟩ rfl rfl hl.1 rfl (lv_room (Nat.le_of_ble_eq_true rfl)) dJ0_checkIndex_df160_5 ⟨(show 0 + 0 ≤ 0 by omega), (show 0 + 0 ≤ 0 by omega)⟩) hS (fun q _ h => hFc q h) hFc (fun r_1 u tS H1 locs ht hvm hw hB hz1 hk1 hS => ?_)
    obtain ⟨hP1, hK1, hD1⟩ := hB
    rw [ht] at hP1
    have hK1 := va_K.moved hvm.symm hK1
    obtain ⟨hP, hD⟩ := va_join (wr := []) (w1 := []) hP hD [] [] rfl rfl (by decide) (by decide) hk1 hFc hP1 hD1
    generalize H1 = H at hP hS ⊢
    have hP : va_P (dC, dI) vwCl [] H := hP
    have hD : va_D A [] := hD
    have hK : va_K (dC, dI) vwCl [] s := hK
    refine lv_pop hx hb dJ0_checkIndex_df160_8 rfl ?_
    have hP9 := hP.sub (ws' := []) [] rfl
    have hD9 := hD.sub (ws' := []) [] (by decide) rfl
    have hK9 := hK.sub (tys' := []) [] rfl
    exact W.vret hx hb hr (fun tS ht hW => ⟨⟨(), rfl, trivial, by rw [ht]; exact hP9, va_K.moved hW.alike hK9, hD9⟩, hS.F ht⟩) hS.2.2 dJ0_checkIndex_df160_9
  · refine va_gets (v := .ref x) hx hb hpre0 hS hown (hts (.fieldLink RJ0 1053 "jdk/internal/util/Preconditions" "SIOOBE_FORMATTER" "Ljava/util/function/BiFunction;") (wm_c_check 1 rfl)) (fun _ h9 => h9) dJ0_checkIndex_df160_2 ?_
    have hPc := hP.sub (ws' := []) [] rfl
    have hDc := hD.sub (ws' := []) [] (by decide) rfl
    have hKc := hK.sub (tys' := []) [] rfl
    have hFc := va_free (wc := []) hD hS hA [] rfl
    refine va_calli (va_runS (As := [.int (nI i), .int (nI n), .ref x]) (rest := []) ⟨hx, hb, hml, hown, hts⟩ (c_preR l dC dI i n x s.heap.size hi hn) (va_cwS 3 hts g_c_check_c_preR_5 rfl rfl rfl (by decide +kernel) ⟨Nat.le_of_ble_eq_true rfl, Nat.le_of_ble_eq_true rfl⟩) ⟨fun a U g mk q => by obtain ⟨q0, q1, qP, qK, qD⟩ := q; exact ⟨q0, q1, qP, va_K.moved (u := U) (U := U.calling g mk a) (Vm.Alike.refl U.vm) qK, qD⟩, fun U hU hW => ⟨rfl, by rw [hU], by rw [hU]; exact hPc, va_K.moved hW.alike hKc, hDc.weaken (fun _ _ _ _ => trivial)⟩⟩ rfl rfl hl.1 rfl (lv_room (Nat.le_of_ble_eq_true rfl)) dJ0_checkIndex_df160_5 ⟨(show 0 + 0 ≤ 0 by omega), (show 0 + 0 ≤ 0 by omega)⟩) hS (fun q _ h => hFc q h) hFc (fun r_1 u tS H1 locs ht hvm hw hB hz1 hk1 hS => ?_)
    obtain ⟨hP1, hK1, hD1⟩ := hB
    rw [ht] at hP1
    have hK1 := va_K.moved hvm.symm hK1
    obtain ⟨hP, hD⟩ := va_join (wr := []) (w1 := []) hP hD [] [] rfl rfl (by decide) (by decide) hk1 hFc hP1 hD1
    generalize H1 = H at hP hS ⊢
    have hP : va_P (dC, dI) vwCl [] H := hP
    have hD : va_D A [] := hD
    have hK : va_K (dC, dI) vwCl [] s := hK
    refine lv_pop hx hb dJ0_checkIndex_df160_8 rfl ?_
    have hP9 := hP.sub (ws' := []) [] rfl
    have hD9 := hD.sub (ws' := []) [] (by decide) rfl
    have hK9 := hK.sub (tys' := []) [] rfl
    exact W.vret hx hb hr (fun tS ht hW => ⟨⟨(), rfl, trivial, by rw [ht]; exact hP9, va_K.moved hW.alike hK9, hD9⟩, hS.F ht⟩) hS.2.2 dJ0_checkIndex_df160_9
def wf_c_latAt : List Cond := [.code yJ1_charAt_3b067 cJ1_charAt_3b067 2 (some .char), .code yJ0_checkIndex_df160 cJ0_checkIndex_df160 2 none, .fieldLink RJ0 1053 "jdk/internal/util/Preconditions" "SIOOBE_FORMATTER" "Ljava/util/function/BiFunction;", .code yJ3_checkIndex_8e157 cJ3_checkIndex_8e157 3 (some .int), .methodLink RJ0 1059 yJ3_checkIndex_8e157, .static yJ3_checkIndex_8e157, .initialized RJ3, .methodLink RJ1 9 yJ0_checkIndex_df160, .static yJ0_checkIndex_df160, .initialized RJ0]
def wp_c_latAt : List Cond := wf_c_latAt ++ []
theorem wg_c_latAt : wf_c_latAt.all goodWord = true := by decide +kernel
theorem wm_c_latAt (k : Nat) {w : Cond} (h : wp_c_latAt[k]? = some w) : w ∈ wp_c_latAt := List.mem_of_getElem? h
set_option maxRecDepth 20000 in
theorem g_c_latAt_c_check_3 : GoodIn wp_c_latAt (va_wsS RJ1 9 yJ0_checkIndex_df160 wp_c_check) := goodIn_app (goodIn_f [.methodLink RJ1 9 yJ0_checkIndex_df160, .static yJ0_checkIndex_df160, .initialized RJ0] [7, 8, 9] rfl (by decide +kernel)) (goodIn_app (goodIn_f (wf_c_check) [1, 2, 3, 4, 5, 6] rfl wg_c_check) (goodIn_n))
set_option maxHeartbeats 4000000 in
set_option maxRecDepth 100000 in
theorem c_latAt (l : Launch) (dC : Nat → ClassId) (dI : Nat → Nat → Nat) (t v N : Nat) (b : Nat → Int32) (i : Nat) (sz : Nat) (hi : i < N) (hN : N < 2 ^ 31) : Met l yJ1_charAt_3b067 wp_c_latAt ({ frames := 2, cells := 0, slots := 0, locals := 43 }) (va_Pc [.ref v, .int (nI i)] (fun U => U.heap.size = sz ∧ va_P (dC, dI) vwCl [] U.heap ∧ va_K (dC, dI) vwCl [] U ∧ va_D (fun _ => True) [] ∧ sgA t v N b (va_A [] sz) U U.heap ∧ sgF (va_A [] sz) U U.heap)) (va_Qi (fun (r : Int32) (_ : Unit) => narrow .char (.int r) = .int r) (fun (_ : Unit) (t : State) => va_P (dC, dI) vwCl [] t.heap ∧ va_K (dC, dI) vwCl [] t ∧ va_D (va_A [] sz) []) (va_A [] sz)) 0 0 (va_A [] sz) := by
  refine Met.ofW (cc := cJ1_charAt_3b067) (maxL := 2) (ret := (some .char)) (by decide) rfl ?_
  intro p e s m args below meth c s₁ B hml hv
  obtain ⟨rfl, hsz, hP, hK, hD0, hpre0, hpre1⟩ := hv
  have hx := B.exec
  have hb := B.bytes
  have hr := B.returns
  have hts := atoms_spec (ws := wp_c_latAt) B.pre
  have hown : s.vm.findClass RJ1 = some m.cls := findClass_of_methodNamed B.named
  have hlocks := B.notSynchronized
  subst hsz
  have hD := hD0.self (sz := s.heap.size)
  generalize hAe : va_A [] s.heap.size = A at hD hpre0 hpre1 ⊢
  have hA : ∀ q : Nat, s.heap.size ≤ q → A q := fun q h => by rw [← hAe]; exact Or.inr h
  have hS : va_S A s.heap s.heap [] := va_S.rf
  have hP : va_P (dC, dI) vwCl [] s.heap := hP
  have hl := lv_entry ([.ref v, .int (nI i)]) (n := 2) (Nat.le_of_ble_eq_true rfl)
  rw [lg_entry_eq]
  generalize (lg_sl ([.ref v, .int (nI i)]) ++ List.replicate (2 - (lg_sl ([.ref v, .int (nI i)])).length) Slot.unset).toArray = ls at hl ⊢
  have hl : lv_has ls 2 [(0, .ref v), (1, .int (nI i))] := hl
  refine lv_iload_n hx hb dJ1_charAt_3b067_0 rfl (lv_at hl 1 rfl) ?_
  refine lv_aload_n hx hb dJ1_charAt_3b067_1 rfl (lv_at hl 0 rfl) ?_
  refine va_tlen (v := nI N) hx hb hpre0.2.2.2.1 hS rfl dJ1_charAt_3b067_2 ?_
  have hPc := hP.sub (ws' := []) [] rfl
  have hDc := hD.sub (ws' := []) [] (by decide) rfl
  have hKc := hK.sub (tys' := []) [] rfl
  have hFc := va_free (wc := []) hD hS hA [] rfl
  refine va_callv (va_runS (As := [.int (nI i), .int (nI N)]) (rest := []) ⟨hx, hb, hml, hown, hts⟩ (c_check l dC dI i N s.heap.size hi hN) (va_cwS 2 hts g_c_latAt_c_check_3 rfl rfl rfl (by decide +kernel) ⟨Nat.le_of_ble_eq_true rfl, Nat.le_of_ble_eq_true rfl⟩) ⟨fun a U g mk q => by obtain ⟨q0, q1, qP, qK, qD, qx0⟩ := q; exact ⟨q0, q1, qP, va_K.moved (u := U) (U := U.calling g mk a) (Vm.Alike.refl U.vm) qK, qD, sgF.moved (u := U) (U := U.calling g mk a) (Vm.Alike.refl U.vm) qx0⟩, fun U hU hW => ⟨rfl, by rw [hU], by rw [hU]; exact hPc, va_K.moved hW.alike hKc, hDc.weaken (fun _ _ _ _ => trivial), by rw [hU]; exact ((hpre1.kept hS.2.1).moved hW.alike).narrow hFc⟩⟩ rfl rfl hl.1 rfl (lv_room (Nat.le_of_ble_eq_true rfl)) dJ1_charAt_3b067_3 ⟨(show 0 + 0 ≤ 0 by omega), (show 0 + 0 ≤ 0 by omega)⟩) hS (fun q _ h => hFc q h) hFc (fun u tS H1 locs ht hvm hw hB hz1 hk1 hS => ?_)
  obtain ⟨hP1, hK1, hD1⟩ := hB
  rw [ht] at hP1
  have hK1 := va_K.moved hvm.symm hK1
  obtain ⟨hP, hD⟩ := va_join (wr := []) (w1 := []) hP hD [] [] rfl rfl (by decide) (by decide) hk1 hFc hP1 hD1
  generalize H1 = H at hP hS ⊢
  have hP : va_P (dC, dI) vwCl [] H := hP
  have hD : va_D A [] := hD
  have hK : va_K (dC, dI) vwCl [] s := hK
  refine lv_aload_n hx hb dJ1_charAt_3b067_6 rfl (lv_at hl 0 rfl) ?_
  refine lv_iload_n hx hb dJ1_charAt_3b067_7 rfl (lv_at hl 1 rfl) ?_
  refine va_tb (v := .int (b i)) hx hb hpre0.2.2.2.1 hS (vp_in_nI hi hN) (by rw [nI_clamp (by omega)]) dJ1_charAt_3b067_8 ?_
  refine lv_sipush (v := 255) hx hb dJ1_charAt_3b067_9 (by decide) ?_
  refine lv_iand hx hb dJ1_charAt_3b067_12 ?_
  refine lv_topi (fun f_2 ef_2 => ?_)
  obtain ⟨f_3, ef_3⟩ : ∃ y : Int32, y = ((f_2 : Int32).toUInt32 % 65536).toInt32 := ⟨_, rfl⟩
  refine lv_i2c (v := f_3) hx hb dJ1_charAt_3b067_13 ef_3.symm ?_
  have hP9 := hP.sub (ws' := []) [] rfl
  have hD9 := hD.sub (ws' := []) [] (by decide) rfl
  have hK9 := hK.sub (tys' := []) [] rfl
  exact W.zret (v := f_3) hx hb hr (by rw [ef_3]; exact pk_nc _) (fun tS ht hW => ⟨⟨f_3, (), rfl, (by rw [ef_3]; exact pk_nc _), by rw [ht]; exact hP9, va_K.moved hW.alike hK9, hD9⟩, hS.F ht⟩) hS.2.2 dJ1_charAt_3b067_14
def wf_c_charAt : List Cond := [.code yJ0_charAt_5068e cJ0_charAt_5068e 2 (some .char), .code yJ0_isLatin1_aae02 cJ0_isLatin1_aae02 1 (some .boolean), .fieldLink RJ0 38 "java/lang/String" "COMPACT_STRINGS" "Z", .fieldLink RJ0 15 "java/lang/String" "coder" "B", .methodLink RJ0 492 yJ0_isLatin1_aae02, .instanceMethod yJ0_isLatin1_aae02, .selects RJ0 yJ0_isLatin1_aae02 yJ0_isLatin1_aae02, .initialized RJ0, .fieldLink RJ0 9 "java/lang/String" "value" "[B", .code yJ1_charAt_3b067 cJ1_charAt_3b067 2 (some .char), .code yJ0_checkIndex_df160 cJ0_checkIndex_df160 2 none, .fieldLink RJ0 1053 "jdk/internal/util/Preconditions" "SIOOBE_FORMATTER" "Ljava/util/function/BiFunction;", .code yJ3_checkIndex_8e157 cJ3_checkIndex_8e157 3 (some .int), .methodLink RJ0 1059 yJ3_checkIndex_8e157, .static yJ3_checkIndex_8e157, .initialized RJ3, .methodLink RJ1 9 yJ0_checkIndex_df160, .static yJ0_checkIndex_df160, .methodLink RJ0 495 yJ1_charAt_3b067, .static yJ1_charAt_3b067, .initialized RJ1]
def wp_c_charAt : List Cond := wf_c_charAt ++ []
theorem wg_c_charAt : wf_c_charAt.all goodWord = true := by decide +kernel
theorem wm_c_charAt (k : Nat) {w : Cond} (h : wp_c_charAt[k]? = some w) : w ∈ wp_c_charAt := List.mem_of_getElem? h
set_option maxRecDepth 20000 in
theorem g_c_charAt_c_latin_1 : GoodIn wp_c_charAt (wsV RJ0 492 RJ0 yJ0_isLatin1_aae02 wp_c_latin) := goodIn_app (goodIn_f [.methodLink RJ0 492 yJ0_isLatin1_aae02, .instanceMethod yJ0_isLatin1_aae02, .selects RJ0 yJ0_isLatin1_aae02 yJ0_isLatin1_aae02, .initialized RJ0] [4, 5, 6, 7] rfl (by decide +kernel)) (goodIn_app (goodIn_f (wf_c_latin) [1, 2, 3] rfl wg_c_latin) (goodIn_n))
set_option maxRecDepth 20000 in
theorem g_c_charAt_c_latAt_12 : GoodIn wp_c_charAt (va_wsS RJ0 495 yJ1_charAt_3b067 wp_c_latAt) := goodIn_app (goodIn_f [.methodLink RJ0 495 yJ1_charAt_3b067, .static yJ1_charAt_3b067, .initialized RJ1] [18, 19, 20] rfl (by decide +kernel)) (goodIn_app (goodIn_f (wf_c_latAt) [9, 10, 11, 12, 13, 14, 15, 16, 17, 7] rfl wg_c_latAt) (goodIn_n))
set_option maxHeartbeats 4000000 in
set_option maxRecDepth 100000 in
theorem c_charAt (l : Launch) (dC : Nat → ClassId) (dI : Nat → Nat → Nat) (t v N : Nat) (b : Nat → Int32) (i : Nat) (sz : Nat) (hi : i < N) (hN : N < 2 ^ 31) : Met l yJ0_charAt_5068e wp_c_charAt ({ frames := 3, cells := 0, slots := 0, locals := 64 }) (va_Pc [.ref t, .int (nI i)] (fun U => U.heap.size = sz ∧ va_P (dC, dI) vwCl [] U.heap ∧ va_K (dC, dI) vwCl [] U ∧ va_D (fun _ => True) [] ∧ sgA t v N b (va_A [] sz) U U.heap ∧ sgF (va_A [] sz) U U.heap)) (va_Qi (fun (r : Int32) (_ : Unit) => narrow .char (.int r) = .int r) (fun (_ : Unit) (t : State) => va_P (dC, dI) vwCl [] t.heap ∧ va_K (dC, dI) vwCl [] t ∧ va_D (va_A [] sz) []) (va_A [] sz)) 0 0 (va_A [] sz) := by
  refine Met.ofW (cc := cJ0_charAt_5068e) (maxL := 2) (ret := (some .char)) (by decide) rfl ?_
  intro p e s m args below meth c s₁ B hml hv
  obtain ⟨rfl, hsz, hP, hK, hD0, hpre0, hpre1⟩ := hv
  have hx := B.exec
  have hb := B.bytes
  have hr := B.returns
  have hts := atoms_spec (ws := wp_c_charAt) B.pre
  have hown : s.vm.findClass RJ0 = some m.cls := findClass_of_methodNamed B.named
  have hlocks := B.notSynchronized
  subst hsz
  have hD := hD0.self (sz := s.heap.size)
  generalize hAe : va_A [] s.heap.size = A at hD hpre0 hpre1 ⊢
  have hA : ∀ q : Nat, s.heap.size ≤ q → A q := fun q h => by rw [← hAe]; exact Or.inr h
  have hS : va_S A s.heap s.heap [] := va_S.rf
  have hP : va_P (dC, dI) vwCl [] s.heap := hP
  have hl := lv_entry ([.ref t, .int (nI i)]) (n := 2) (Nat.le_of_ble_eq_true rfl)
  rw [lg_entry_eq]
  generalize (lg_sl ([.ref t, .int (nI i)]) ++ List.replicate (2 - (lg_sl ([.ref t, .int (nI i)])).length) Slot.unset).toArray = ls at hl ⊢
  have hl : lv_has ls 2 [(0, .ref t), (1, .int (nI i))] := hl
  refine lv_aload_n hx hb dJ0_charAt_5068e_0 rfl (lv_at hl 0 rfl) ?_
  have hPc := hP.sub (ws' := []) [] rfl
  have hDc := hD.sub (ws' := []) [] (by decide) rfl
  have hKc := hK.sub (tys' := []) [] rfl
  have hFc := va_free (wc := []) hD hS hA [] rfl
  refine va_calli (va_runV (As := []) (rest := []) ⟨hx, hb, hml, hown, hts⟩ (c_latin l dC dI t v N b s.heap.size) (cwV 0 hts g_c_charAt_c_latin_1 rfl rfl rfl (by decide +kernel) ⟨Nat.le_of_ble_eq_true rfl, Nat.le_of_ble_eq_true rfl⟩) ⟨fun a U g mk q => by obtain ⟨q0, q1, qP, qK, qD, qx0⟩ := q; exact ⟨q0, q1, qP, va_K.moved (u := U) (U := U.calling g mk a) (Vm.Alike.refl U.vm) qK, qD, sgA.moved (u := U) (U := U.calling g mk a) (Vm.Alike.refl U.vm) qx0⟩, va_Orecv hpre0.1 hS, fun U hU hW => ⟨rfl, by rw [hU], by rw [hU]; exact hPc, va_K.moved hW.alike hKc, hDc.weaken (fun _ _ _ _ => trivial), by rw [hU]; exact ((hpre0.kept hS.2.1).moved hW.alike).narrow hFc⟩⟩ rfl rfl hl.1 rfl (lv_room (Nat.le_of_ble_eq_true rfl)) dJ0_charAt_5068e_1 ⟨(show 0 + 0 ≤ 0 by omega), (show 0 + 0 ≤ 0 by omega)⟩) hS (fun q _ h => hFc q h) hFc (fun r_1 u tS H1 locs ht hvm hw hB hz1 hk1 hS => ?_)
  obtain ⟨hP1, hK1, hD1⟩ := hB
  rw [ht] at hP1
  have hK1 := va_K.moved hvm.symm hK1
  obtain ⟨hP, hD⟩ := va_join (wr := []) (w1 := []) hP hD [] [] rfl rfl (by decide) (by decide) hk1 hFc hP1 hD1
  generalize H1 = H at hP hS ⊢
  have hP : va_P (dC, dI) vwCl [] H := hP
  have hD : va_D A [] := hD
  have hK : va_K (dC, dI) vwCl [] s := hK
  obtain rfl : r_1 = 1 := hw
  refine lv_if_eq (tgt := 16) hx hb dJ0_charAt_5068e_4 (by decide) (fun c_2 => absurd c_2 (by decide)) (fun _ => ?_)
  refine lv_aload_n hx hb dJ0_charAt_5068e_7 rfl (lv_at hl 0 rfl) ?_
  refine vk_getf (v := .ref v) hx hb hpre0.2.2.1 hS hown (hts (.fieldLink RJ0 9 "java/lang/String" "value" "[B") (wm_c_charAt 8 rfl)) (fun _ h9 => h9) dJ0_charAt_5068e_8 ?_
  refine lv_iload_n hx hb dJ0_charAt_5068e_11 rfl (lv_at hl 1 rfl) ?_
  have hPc := hP.sub (ws' := []) [] rfl
  have hDc := hD.sub (ws' := []) [] (by decide) rfl
  have hKc := hK.sub (tys' := []) [] rfl
  have hFc := va_free (wc := []) hD hS hA [] rfl
  refine va_calli (va_runS (As := [.ref v, .int (nI i)]) (rest := []) ⟨hx, hb, hml, hown, hts⟩ (c_latAt l dC dI t v N b i H.size hi hN) (va_cwS 2 hts g_c_charAt_c_latAt_12 rfl rfl rfl (by decide +kernel) ⟨Nat.le_of_ble_eq_true rfl, Nat.le_of_ble_eq_true rfl⟩) ⟨fun a U g mk q => by obtain ⟨q0, q1, qP, qK, qD, qx0, qx1⟩ := q; exact ⟨q0, q1, qP, va_K.moved (u := U) (U := U.calling g mk a) (Vm.Alike.refl U.vm) qK, qD, sgA.moved (u := U) (U := U.calling g mk a) (Vm.Alike.refl U.vm) qx0, sgF.moved (u := U) (U := U.calling g mk a) (Vm.Alike.refl U.vm) qx1⟩, fun U hU hW => ⟨rfl, by rw [hU], by rw [hU]; exact hPc, va_K.moved hW.alike hKc, hDc.weaken (fun _ _ _ _ => trivial), by rw [hU]; exact ((hpre0.kept hS.2.1).moved hW.alike).narrow hFc, by rw [hU]; exact ((hpre1.kept hS.2.1).moved hW.alike).narrow hFc⟩⟩ rfl rfl hl.1 rfl (lv_room (Nat.le_of_ble_eq_true rfl)) dJ0_charAt_5068e_12 ⟨(show 0 + 0 ≤ 0 by omega), (show 0 + 0 ≤ 0 by omega)⟩) hS (fun q _ h => hFc q h) hFc (fun r_3 u tS H1 locs ht hvm hw hB hz1 hk1 hS => ?_)
  obtain ⟨hP1, hK1, hD1⟩ := hB
  rw [ht] at hP1
  have hK1 := va_K.moved hvm.symm hK1
  obtain ⟨hP, hD⟩ := va_join (wr := []) (w1 := []) hP hD [] [] rfl rfl (by decide) (by decide) hk1 hFc hP1 hD1
  generalize H1 = H at hP hS ⊢
  have hP : va_P (dC, dI) vwCl [] H := hP
  have hD : va_D A [] := hD
  have hK : va_K (dC, dI) vwCl [] s := hK
  have hP9 := hP.sub (ws' := []) [] rfl
  have hD9 := hD.sub (ws' := []) [] (by decide) rfl
  have hK9 := hK.sub (tys' := []) [] rfl
  exact W.zret (v := r_3) hx hb hr hw (fun tS ht hW => ⟨⟨r_3, (), rfl, hw, by rw [ht]; exact hP9, va_K.moved hW.alike hK9, hD9⟩, hS.F ht⟩) hS.2.2 dJ0_charAt_5068e_15
end
section
def wf_c_code : List Cond := [.code yX0_init cX0_init 1 none, .methodLink RX0 3 objectInit, .instanceMethod objectInit, .code objectInit ⟨#[0xb1]⟩ 1 none, .arrayClass .int, .fieldLink RX0 9 "OwnedPlaces$Code" "op" "[I", .fieldLink RX0 15 "OwnedPlaces$Code" "a" "[I", .fieldLink RX0 18 "OwnedPlaces$Code" "b" "[I", .fieldLink RX0 21 "OwnedPlaces$Code" "c" "[I", .fieldLink RX0 24 "OwnedPlaces$Code" "where" "[I", .fieldLink RX0 27 "OwnedPlaces$Code" "labelAt" "[I", .fieldLink RX0 30 "OwnedPlaces$Code" "placeVariable" "[I", .fieldLink RX0 33 "OwnedPlaces$Code" "placePath" "[I", .fieldLink RX0 36 "OwnedPlaces$Code" "placeLength" "[I", .fieldLink RX0 39 "OwnedPlaces$Code" "placeRoute" "[I", .fieldLink RX0 42 "OwnedPlaces$Code" "placeType" "[I", .fieldLink RX0 45 "OwnedPlaces$Code" "placeWhere" "[I", .fieldLink RX0 48 "OwnedPlaces$Code" "placeCells" "[I", .fieldLink RX0 51 "OwnedPlaces$Code" "armLabels" "[I"]
def wp_c_code : List Cond := wf_c_code ++ (wsX00 ++ [])
theorem in_c_code_X0 : ∀ w ∈ wsX00, w ∈ wp_c_code := fun w h => List.mem_append_right _ (List.mem_append_left _ h)
theorem wg_c_code : wf_c_code.all goodWord = true := by decide +kernel
theorem wm_c_code (k : Nat) {w : Cond} (h : wp_c_code[k]? = some w) : w ∈ wp_c_code := List.mem_of_getElem? h
set_option maxHeartbeats 4000000 in
set_option maxRecDepth 100000 in
theorem c_code (l : Launch) (dC : Nat → ClassId) (dI : Nat → Nat → Nat) (h : Nat) (sz : Nat) : Met l yX0_init wp_c_code ({ frames := 1, cells := 14, slots := 55116, locals := 12 }) (va_Pc [.ref h] (fun U => U.heap.size = sz ∧ va_P (dC, dI) vwCl [(h, .inr (0, [.null, .null, .null, .null, .null, .int 0, .null, .int 0, .null, .null, .null, .null, .null, .null, .null, .int 0, .null, .int 0]))] U.heap ∧ va_K (dC, dI) vwCl [] U ∧ va_D (fun _ => True) [(h, .inr (0, [.null, .null, .null, .null, .null, .int 0, .null, .int 0, .null, .null, .null, .null, .null, .null, .null, .int 0, .null, .int 0]))])) (va_Qv (fun _ : Unit => True) (fun (_ : Unit) (_ : State) => True) (va_A [(h, .inr (0, [.null, .null, .null, .null, .null, .int 0, .null, .int 0, .null, .null, .null, .null, .null, .null, .null, .int 0, .null, .int 0]))] sz)) 14 55116 (va_A [(h, .inr (0, [.null, .null, .null, .null, .null, .int 0, .null, .int 0, .null, .null, .null, .null, .null, .null, .null, .int 0, .null, .int 0]))] sz) := by
  refine Met.ofW (cc := cX0_init) (maxL := 1) (ret := none) (by decide) rfl ?_
  intro p e s m args below meth c s₁ B hml hv
  obtain ⟨rfl, hsz, hP, hK, hD0⟩ := hv
  have hx := B.exec
  have hb := B.bytes
  have hr := B.returns
  have hts := atoms_spec (ws := wp_c_code) B.pre
  have hown : s.vm.findClass RX0 = some m.cls := findClass_of_methodNamed B.named
  have hlocks := B.notSynchronized
  have hin : meth.name = "<init>" := (name_of_methodNamed B.named B.method).1
  subst hsz
  have hD := hD0.self (sz := s.heap.size)
  generalize hAe : va_A [(h, .inr (0, [.null, .null, .null, .null, .null, .int 0, .null, .int 0, .null, .null, .null, .null, .null, .null, .null, .int 0, .null, .int 0]))] s.heap.size = A at hD ⊢
  have hA : ∀ q : Nat, s.heap.size ≤ q → A q := fun q h => by rw [← hAe]; exact Or.inr h
  have hS : va_S A s.heap s.heap [] := va_S.rf
  have hP : va_P (dC, dI) vwCl [(h, .inr (0, [.null, .null, .null, .null, .null, .int 0, .null, .int 0, .null, .null, .null, .null, .null, .null, .null, .int 0, .null, .int 0]))] s.heap := hP
  have hl := lv_entry ([.ref h]) (n := 1) (Nat.le_of_ble_eq_true rfl)
  rw [lg_entry_eq]
  generalize (lg_sl ([.ref h]) ++ List.replicate (1 - (lg_sl ([.ref h])).length) Slot.unset).toArray = ls at hl ⊢
  have hl : lv_has ls 1 [(0, .ref h)] := hl
  refine lv_aload_n hx hb dX0_init_0 rfl (lv_at hl 0 rfl) ?_
  refine W.objInit hx hb hown (hts (.methodLink RX0 3 objectInit) (wm_c_code 1 rfl)) (hts (.instanceMethod objectInit) (wm_c_code 2 rfl)) (hts (.code objectInit ⟨#[0xb1]⟩ 1 none) (wm_c_code 3 rfl)) rfl (by rw [hml]; exact hl.1) rfl dX0_init_1 (Nat.le_of_ble_eq_true rfl) (Nat.le_of_ble_eq_true rfl) ?_
  refine W.eq (g2 := F0 m 4 ls []) rfl ?_
  refine lv_aload_n hx hb dX0_init_4 rfl (lv_at hl 0 rfl) ?_
  refine lv_sipush (v := 6000) hx hb dX0_init_5 (by decide) ?_
  refine va_newa (atype := .int) (a0 := (6000, .inl (fun _ => 0))) (ty := .int) hx hb (hts (.arrayClass .int) (wm_c_code 4 rfl)) rfl hK hP hD hS hA (fun _ => rfl) (by decide) (by decide +kernel) (show 6000 * 4 ≤ 536870912 by omega) (show 0 + 1 ≤ 14 by omega) (show 0 + 6000 ≤ 55116 by omega) dX0_init_8 (fun q_1 k_2 H _ hP hD hS => ?_)
  have hP := hP.sub (ws' := [(h, .inr (0, [.null, .null, .null, .null, .null, .int 0, .null, .int 0, .null, .null, .null, .null, .null, .null, .null, .int 0, .null, .int 0]))]) [0] rfl
  have hD := hD.sub (ws' := [(h, .inr (0, [.null, .null, .null, .null, .null, .int 0, .null, .int 0, .null, .null, .null, .null, .null, .null, .null, .int 0, .null, .int 0]))]) [0] (by decide) rfl
  refine W.widen (k := 1) (n := 6000) (by omega) (by omega) ?_
  refine va_putF (D := (dC, dI)) (ci := 0) (v := .ref q_1) (ty := (.array .int)) (C := RX0) (T := TX0) (N := 18) hx hb hts in_c_code_X0 tyX0 tyX0_ok nmX0 hown hK hP hD hS 0 rfl rfl 0 (by decide) (hts (.fieldLink RX0 9 "OwnedPlaces$Code" "op" "[I") (wm_c_code 5 rfl)) (fun _ h9 => h9) rfl hin rfl (by decide +kernel) rfl rfl (Nat.le_of_ble_eq_true rfl) dX0_init_10 (fun H locs hP hD hS => ?_)
  have hP : va_P (dC, dI) vwCl [(h, .inr (0, [.ref q_1, .null, .null, .null, .null, .int 0, .null, .int 0, .null, .null, .null, .null, .null, .null, .null, .int 0, .null, .int 0]))] H := hP
  have hD : va_D A [(h, .inr (0, [.ref q_1, .null, .null, .null, .null, .int 0, .null, .int 0, .null, .null, .null, .null, .null, .null, .null, .int 0, .null, .int 0]))] := hD
  refine lv_aload_n hx hb dX0_init_13 rfl (lv_at hl 0 rfl) ?_
  refine lv_sipush (v := 6000) hx hb dX0_init_14 (by decide) ?_
  refine va_newa (atype := .int) (a0 := (6000, .inl (fun _ => 0))) (ty := .int) hx hb (hts (.arrayClass .int) (wm_c_code 4 rfl)) rfl hK hP hD hS hA (fun _ => rfl) (by decide) (by decide +kernel) (show 6000 * 4 ≤ 536870912 by omega) (show 1 + 1 ≤ 14 by omega) (show 6000 + 6000 ≤ 55116 by omega) dX0_init_17 (fun q_3 k_4 H _ hP hD hS => ?_)
  have hP := hP.sub (ws' := [(h, .inr (0, [.ref q_1, .null, .null, .null, .null, .int 0, .null, .int 0, .null, .null, .null, .null, .null, .null, .null, .int 0, .null, .int 0]))]) [0] rfl
  have hD := hD.sub (ws' := [(h, .inr (0, [.ref q_1, .null, .null, .null, .null, .int 0, .null, .int 0, .null, .null, .null, .null, .null, .null, .null, .int 0, .null, .int 0]))]) [0] (by decide) rfl
  refine W.widen (k := 2) (n := 12000) (by omega) (by omega) ?_
  refine va_putF (D := (dC, dI)) (ci := 0) (v := .ref q_3) (ty := (.array .int)) (C := RX0) (T := TX0) (N := 18) hx hb hts in_c_code_X0 tyX0 tyX0_ok nmX0 hown hK hP hD hS 0 rfl rfl 1 (by decide) (hts (.fieldLink RX0 15 "OwnedPlaces$Code" "a" "[I") (wm_c_code 6 rfl)) (fun _ h9 => h9) rfl hin rfl (by decide +kernel) rfl rfl (Nat.le_of_ble_eq_true rfl) dX0_init_19 (fun H locs hP hD hS => ?_)
  have hP : va_P (dC, dI) vwCl [(h, .inr (0, [.ref q_1, .ref q_3, .null, .null, .null, .int 0, .null, .int 0, .null, .null, .null, .null, .null, .null, .null, .int 0, .null, .int 0]))] H := hP
  have hD : va_D A [(h, .inr (0, [.ref q_1, .ref q_3, .null, .null, .null, .int 0, .null, .int 0, .null, .null, .null, .null, .null, .null, .null, .int 0, .null, .int 0]))] := hD
  refine lv_aload_n hx hb dX0_init_22 rfl (lv_at hl 0 rfl) ?_
  refine lv_sipush (v := 6000) hx hb dX0_init_23 (by decide) ?_
  refine va_newa (atype := .int) (a0 := (6000, .inl (fun _ => 0))) (ty := .int) hx hb (hts (.arrayClass .int) (wm_c_code 4 rfl)) rfl hK hP hD hS hA (fun _ => rfl) (by decide) (by decide +kernel) (show 6000 * 4 ≤ 536870912 by omega) (show 2 + 1 ≤ 14 by omega) (show 12000 + 6000 ≤ 55116 by omega) dX0_init_26 (fun q_5 k_6 H _ hP hD hS => ?_)
  have hP := hP.sub (ws' := [(h, .inr (0, [.ref q_1, .ref q_3, .null, .null, .null, .int 0, .null, .int 0, .null, .null, .null, .null, .null, .null, .null, .int 0, .null, .int 0]))]) [0] rfl
  have hD := hD.sub (ws' := [(h, .inr (0, [.ref q_1, .ref q_3, .null, .null, .null, .int 0, .null, .int 0, .null, .null, .null, .null, .null, .null, .null, .int 0, .null, .int 0]))]) [0] (by decide) rfl
  refine W.widen (k := 3) (n := 18000) (by omega) (by omega) ?_
  refine va_putF (D := (dC, dI)) (ci := 0) (v := .ref q_5) (ty := (.array .int)) (C := RX0) (T := TX0) (N := 18) hx hb hts in_c_code_X0 tyX0 tyX0_ok nmX0 hown hK hP hD hS 0 rfl rfl 2 (by decide) (hts (.fieldLink RX0 18 "OwnedPlaces$Code" "b" "[I") (wm_c_code 7 rfl)) (fun _ h9 => h9) rfl hin rfl (by decide +kernel) rfl rfl (Nat.le_of_ble_eq_true rfl) dX0_init_28 (fun H locs hP hD hS => ?_)
  have hP : va_P (dC, dI) vwCl [(h, .inr (0, [.ref q_1, .ref q_3, .ref q_5, .null, .null, .int 0, .null, .int 0, .null, .null, .null, .null, .null, .null, .null, .int 0, .null, .int 0]))] H := hP
  have hD : va_D A [(h, .inr (0, [.ref q_1, .ref q_3, .ref q_5, .null, .null, .int 0, .null, .int 0, .null, .null, .null, .null, .null, .null, .null, .int 0, .null, .int 0]))] := hD
  refine lv_aload_n hx hb dX0_init_31 rfl (lv_at hl 0 rfl) ?_
  refine lv_sipush (v := 6000) hx hb dX0_init_32 (by decide) ?_
  refine va_newa (atype := .int) (a0 := (6000, .inl (fun _ => 0))) (ty := .int) hx hb (hts (.arrayClass .int) (wm_c_code 4 rfl)) rfl hK hP hD hS hA (fun _ => rfl) (by decide) (by decide +kernel) (show 6000 * 4 ≤ 536870912 by omega) (show 3 + 1 ≤ 14 by omega) (show 18000 + 6000 ≤ 55116 by omega) dX0_init_35 (fun q_7 k_8 H _ hP hD hS => ?_)
  have hP := hP.sub (ws' := [(h, .inr (0, [.ref q_1, .ref q_3, .ref q_5, .null, .null, .int 0, .null, .int 0, .null, .null, .null, .null, .null, .null, .null, .int 0, .null, .int 0]))]) [0] rfl
  have hD := hD.sub (ws' := [(h, .inr (0, [.ref q_1, .ref q_3, .ref q_5, .null, .null, .int 0, .null, .int 0, .null, .null, .null, .null, .null, .null, .null, .int 0, .null, .int 0]))]) [0] (by decide) rfl
  refine W.widen (k := 4) (n := 24000) (by omega) (by omega) ?_
  refine va_putF (D := (dC, dI)) (ci := 0) (v := .ref q_7) (ty := (.array .int)) (C := RX0) (T := TX0) (N := 18) hx hb hts in_c_code_X0 tyX0 tyX0_ok nmX0 hown hK hP hD hS 0 rfl rfl 3 (by decide) (hts (.fieldLink RX0 21 "OwnedPlaces$Code" "c" "[I") (wm_c_code 8 rfl)) (fun _ h9 => h9) rfl hin rfl (by decide +kernel) rfl rfl (Nat.le_of_ble_eq_true rfl) dX0_init_37 (fun H locs hP hD hS => ?_)
  have hP : va_P (dC, dI) vwCl [(h, .inr (0, [.ref q_1, .ref q_3, .ref q_5, .ref q_7, .null, .int 0, .null, .int 0, .null, .null, .null, .null, .null, .null, .null, .int 0, .null, .int 0]))] H := hP
  have hD : va_D A [(h, .inr (0, [.ref q_1, .ref q_3, .ref q_5, .ref q_7, .null, .int 0, .null, .int 0, .null, .null, .null, .null, .null, .null, .null, .int 0, .null, .int 0]))] := hD
  refine lv_aload_n hx hb dX0_init_40 rfl (lv_at hl 0 rfl) ?_
  refine lv_sipush (v := 6000) hx hb dX0_init_41 (by decide) ?_
  refine va_newa (atype := .int) (a0 := (6000, .inl (fun _ => 0))) (ty := .int) hx hb (hts (.arrayClass .int) (wm_c_code 4 rfl)) rfl hK hP hD hS hA (fun _ => rfl) (by decide) (by decide +kernel) (show 6000 * 4 ≤ 536870912 by omega) (show 4 + 1 ≤ 14 by omega) (show 24000 + 6000 ≤ 55116 by omega) dX0_init_44 (fun q_9 k_10 H _ hP hD hS => ?_)
  have hP := hP.sub (ws' := [(h, .inr (0, [.ref q_1, .ref q_3, .ref q_5, .ref q_7, .null, .int 0, .null, .int 0, .null, .null, .null, .null, .null, .null, .null, .int 0, .null, .int 0]))]) [0] rfl
  have hD := hD.sub (ws' := [(h, .inr (0, [.ref q_1, .ref q_3, .ref q_5, .ref q_7, .null, .int 0, .null, .int 0, .null, .null, .null, .null, .null, .null, .null, .int 0, .null, .int 0]))]) [0] (by decide) rfl
  refine W.widen (k := 5) (n := 30000) (by omega) (by omega) ?_
  refine va_putF (D := (dC, dI)) (ci := 0) (v := .ref q_9) (ty := (.array .int)) (C := RX0) (T := TX0) (N := 18) hx hb hts in_c_code_X0 tyX0 tyX0_ok nmX0 hown hK hP hD hS 0 rfl rfl 4 (by decide) (hts (.fieldLink RX0 24 "OwnedPlaces$Code" "where" "[I") (wm_c_code 9 rfl)) (fun _ h9 => h9) rfl hin rfl (by decide +kernel) rfl rfl (Nat.le_of_ble_eq_true rfl) dX0_init_46 (fun H locs hP hD hS => ?_)
  have hP : va_P (dC, dI) vwCl [(h, .inr (0, [.ref q_1, .ref q_3, .ref q_5, .ref q_7, .ref q_9, .int 0, .null, .int 0, .null, .null, .null, .null, .null, .null, .null, .int 0, .null, .int 0]))] H := hP
  have hD : va_D A [(h, .inr (0, [.ref q_1, .ref q_3, .ref q_5, .ref q_7, .ref q_9, .int 0, .null, .int 0, .null, .null, .null, .null, .null, .null, .null, .int 0, .null, .int 0]))] := hD
  refine lv_aload_n hx hb dX0_init_49 rfl (lv_at hl 0 rfl) ?_
  refine lv_sipush (v := 1100) hx hb dX0_init_50 (by decide) ?_
  refine va_newa (atype := .int) (a0 := (1100, .inl (fun _ => 0))) (ty := .int) hx hb (hts (.arrayClass .int) (wm_c_code 4 rfl)) rfl hK hP hD hS hA (fun _ => rfl) (by decide) (by decide +kernel) (show 1100 * 4 ≤ 536870912 by omega) (show 5 + 1 ≤ 14 by omega) (show 30000 + 1100 ≤ 55116 by omega) dX0_init_53 (fun q_11 k_12 H _ hP hD hS => ?_)
  have hP := hP.sub (ws' := [(h, .inr (0, [.ref q_1, .ref q_3, .ref q_5, .ref q_7, .ref q_9, .int 0, .null, .int 0, .null, .null, .null, .null, .null, .null, .null, .int 0, .null, .int 0]))]) [0] rfl
  have hD := hD.sub (ws' := [(h, .inr (0, [.ref q_1, .ref q_3, .ref q_5, .ref q_7, .ref q_9, .int 0, .null, .int 0, .null, .null, .null, .null, .null, .null, .null, .int 0, .null, .int 0]))]) [0] (by decide) rfl
  refine W.widen (k := 6) (n := 31100) (by omega) (by omega) ?_
  refine va_putF (D := (dC, dI)) (ci := 0) (v := .ref q_11) (ty := (.array .int)) (C := RX0) (T := TX0) (N := 18) hx hb hts in_c_code_X0 tyX0 tyX0_ok nmX0 hown hK hP hD hS 0 rfl rfl 6 (by decide) (hts (.fieldLink RX0 27 "OwnedPlaces$Code" "labelAt" "[I") (wm_c_code 10 rfl)) (fun _ h9 => h9) rfl hin rfl (by decide +kernel) rfl rfl (Nat.le_of_ble_eq_true rfl) dX0_init_55 (fun H locs hP hD hS => ?_)
  have hP : va_P (dC, dI) vwCl [(h, .inr (0, [.ref q_1, .ref q_3, .ref q_5, .ref q_7, .ref q_9, .int 0, .ref q_11, .int 0, .null, .null, .null, .null, .null, .null, .null, .int 0, .null, .int 0]))] H := hP
  have hD : va_D A [(h, .inr (0, [.ref q_1, .ref q_3, .ref q_5, .ref q_7, .ref q_9, .int 0, .ref q_11, .int 0, .null, .null, .null, .null, .null, .null, .null, .int 0, .null, .int 0]))] := hD
  refine lv_aload_n hx hb dX0_init_58 rfl (lv_at hl 0 rfl) ?_
  refine lv_sipush (v := 3002) hx hb dX0_init_59 (by decide) ?_
  refine va_newa (atype := .int) (a0 := (3002, .inl (fun _ => 0))) (ty := .int) hx hb (hts (.arrayClass .int) (wm_c_code 4 rfl)) rfl hK hP hD hS hA (fun _ => rfl) (by decide) (by decide +kernel) (show 3002 * 4 ≤ 536870912 by omega) (show 6 + 1 ≤ 14 by omega) (show 31100 + 3002 ≤ 55116 by omega) dX0_init_62 (fun q_13 k_14 H _ hP hD hS => ?_)
  have hP := hP.sub (ws' := [(h, .inr (0, [.ref q_1, .ref q_3, .ref q_5, .ref q_7, .ref q_9, .int 0, .ref q_11, .int 0, .null, .null, .null, .null, .null, .null, .null, .int 0, .null, .int 0]))]) [0] rfl
  have hD := hD.sub (ws' := [(h, .inr (0, [.ref q_1, .ref q_3, .ref q_5, .ref q_7, .ref q_9, .int 0, .ref q_11, .int 0, .null, .null, .null, .null, .null, .null, .null, .int 0, .null, .int 0]))]) [0] (by decide) rfl
  refine W.widen (k := 7) (n := 34102) (by omega) (by omega) ?_
  refine va_putF (D := (dC, dI)) (ci := 0) (v := .ref q_13) (ty := (.array .int)) (C := RX0) (T := TX0) (N := 18) hx hb hts in_c_code_X0 tyX0 tyX0_ok nmX0 hown hK hP hD hS 0 rfl rfl 8 (by decide) (hts (.fieldLink RX0 30 "OwnedPlaces$Code" "placeVariable" "[I") (wm_c_code 11 rfl)) (fun _ h9 => h9) rfl hin rfl (by decide +kernel) rfl rfl (Nat.le_of_ble_eq_true rfl) dX0_init_64 (fun H locs hP hD hS => ?_)
  have hP : va_P (dC, dI) vwCl [(h, .inr (0, [.ref q_1, .ref q_3, .ref q_5, .ref q_7, .ref q_9, .int 0, .ref q_11, .int 0, .ref q_13, .null, .null, .null, .null, .null, .null, .int 0, .null, .int 0]))] H := hP
  have hD : va_D A [(h, .inr (0, [.ref q_1, .ref q_3, .ref q_5, .ref q_7, .ref q_9, .int 0, .ref q_11, .int 0, .ref q_13, .null, .null, .null, .null, .null, .null, .int 0, .null, .int 0]))] := hD
  refine lv_aload_n hx hb dX0_init_67 rfl (lv_at hl 0 rfl) ?_
  refine lv_sipush (v := 3002) hx hb dX0_init_68 (by decide) ?_
  refine va_newa (atype := .int) (a0 := (3002, .inl (fun _ => 0))) (ty := .int) hx hb (hts (.arrayClass .int) (wm_c_code 4 rfl)) rfl hK hP hD hS hA (fun _ => rfl) (by decide) (by decide +kernel) (show 3002 * 4 ≤ 536870912 by omega) (show 7 + 1 ≤ 14 by omega) (show 34102 + 3002 ≤ 55116 by omega) dX0_init_71 (fun q_15 k_16 H _ hP hD hS => ?_)
  have hP := hP.sub (ws' := [(h, .inr (0, [.ref q_1, .ref q_3, .ref q_5, .ref q_7, .ref q_9, .int 0, .ref q_11, .int 0, .ref q_13, .null, .null, .null, .null, .null, .null, .int 0, .null, .int 0]))]) [0] rfl
  have hD := hD.sub (ws' := [(h, .inr (0, [.ref q_1, .ref q_3, .ref q_5, .ref q_7, .ref q_9, .int 0, .ref q_11, .int 0, .ref q_13, .null, .null, .null, .null, .null, .null, .int 0, .null, .int 0]))]) [0] (by decide) rfl
  refine W.widen (k := 8) (n := 37104) (by omega) (by omega) ?_
  refine va_putF (D := (dC, dI)) (ci := 0) (v := .ref q_15) (ty := (.array .int)) (C := RX0) (T := TX0) (N := 18) hx hb hts in_c_code_X0 tyX0 tyX0_ok nmX0 hown hK hP hD hS 0 rfl rfl 9 (by decide) (hts (.fieldLink RX0 33 "OwnedPlaces$Code" "placePath" "[I") (wm_c_code 12 rfl)) (fun _ h9 => h9) rfl hin rfl (by decide +kernel) rfl rfl (Nat.le_of_ble_eq_true rfl) dX0_init_73 (fun H locs hP hD hS => ?_)
  have hP : va_P (dC, dI) vwCl [(h, .inr (0, [.ref q_1, .ref q_3, .ref q_5, .ref q_7, .ref q_9, .int 0, .ref q_11, .int 0, .ref q_13, .ref q_15, .null, .null, .null, .null, .null, .int 0, .null, .int 0]))] H := hP
  have hD : va_D A [(h, .inr (0, [.ref q_1, .ref q_3, .ref q_5, .ref q_7, .ref q_9, .int 0, .ref q_11, .int 0, .ref q_13, .ref q_15, .null, .null, .null, .null, .null, .int 0, .null, .int 0]))] := hD
  refine lv_aload_n hx hb dX0_init_76 rfl (lv_at hl 0 rfl) ?_
  refine lv_sipush (v := 3002) hx hb dX0_init_77 (by decide) ?_
  refine va_newa (atype := .int) (a0 := (3002, .inl (fun _ => 0))) (ty := .int) hx hb (hts (.arrayClass .int) (wm_c_code 4 rfl)) rfl hK hP hD hS hA (fun _ => rfl) (by decide) (by decide +kernel) (show 3002 * 4 ≤ 536870912 by omega) (show 8 + 1 ≤ 14 by omega) (show 37104 + 3002 ≤ 55116 by omega) dX0_init_80 (fun q_17 k_18 H _ hP hD hS => ?_)
  have hP := hP.sub (ws' := [(h, .inr (0, [.ref q_1, .ref q_3, .ref q_5, .ref q_7, .ref q_9, .int 0, .ref q_11, .int 0, .ref q_13, .ref q_15, .null, .null, .null, .null, .null, .int 0, .null, .int 0]))]) [0] rfl
  have hD := hD.sub (ws' := [(h, .inr (0, [.ref q_1, .ref q_3, .ref q_5, .ref q_7, .ref q_9, .int 0, .ref q_11, .int 0, .ref q_13, .ref q_15, .null, .null, .null, .null, .null, .int 0, .null, .int 0]))]) [0] (by decide) rfl
  refine W.widen (k := 9) (n := 40106) (by omega) (by omega) ?_
  refine va_putF (D := (dC, dI)) (ci := 0) (v := .ref q_17) (ty := (.array .int)) (C := RX0) (T := TX0) (N := 18) hx hb hts in_c_code_X0 tyX0 tyX0_ok nmX0 hown hK hP hD hS 0 rfl rfl 10 (by decide) (hts (.fieldLink RX0 36 "OwnedPlaces$Code" "placeLength" "[I") (wm_c_code 13 rfl)) (fun _ h9 => h9) rfl hin rfl (by decide +kernel) rfl rfl (Nat.le_of_ble_eq_true rfl) dX0_init_82 (fun H locs hP hD hS => ?_)
  have hP : va_P (dC, dI) vwCl [(h, .inr (0, [.ref q_1, .ref q_3, .ref q_5, .ref q_7, .ref q_9, .int 0, .ref q_11, .int 0, .ref q_13, .ref q_15, .ref q_17, .null, .null, .null, .null, .int 0, .null, .int 0]))] H := hP
  have hD : va_D A [(h, .inr (0, [.ref q_1, .ref q_3, .ref q_5, .ref q_7, .ref q_9, .int 0, .ref q_11, .int 0, .ref q_13, .ref q_15, .ref q_17, .null, .null, .null, .null, .int 0, .null, .int 0]))] := hD
  refine lv_aload_n hx hb dX0_init_85 rfl (lv_at hl 0 rfl) ?_
  refine lv_sipush (v := 3002) hx hb dX0_init_86 (by decide) ?_
  refine va_newa (atype := .int) (a0 := (3002, .inl (fun _ => 0))) (ty := .int) hx hb (hts (.arrayClass .int) (wm_c_code 4 rfl)) rfl hK hP hD hS hA (fun _ => rfl) (by decide) (by decide +kernel) (show 3002 * 4 ≤ 536870912 by omega) (show 9 + 1 ≤ 14 by omega) (show 40106 + 3002 ≤ 55116 by omega) dX0_init_89 (fun q_19 k_20 H _ hP hD hS => ?_)
  have hP := hP.sub (ws' := [(h, .inr (0, [.ref q_1, .ref q_3, .ref q_5, .ref q_7, .ref q_9, .int 0, .ref q_11, .int 0, .ref q_13, .ref q_15, .ref q_17, .null, .null, .null, .null, .int 0, .null, .int 0]))]) [0] rfl
  have hD := hD.sub (ws' := [(h, .inr (0, [.ref q_1, .ref q_3, .ref q_5, .ref q_7, .ref q_9, .int 0, .ref q_11, .int 0, .ref q_13, .ref q_15, .ref q_17, .null, .null, .null, .null, .int 0, .null, .int 0]))]) [0] (by decide) rfl
  refine W.widen (k := 10) (n := 43108) (by omega) (by omega) ?_
  refine va_putF (D := (dC, dI)) (ci := 0) (v := .ref q_19) (ty := (.array .int)) (C := RX0) (T := TX0) (N := 18) hx hb hts in_c_code_X0 tyX0 tyX0_ok nmX0 hown hK hP hD hS 0 rfl rfl 11 (by decide) (hts (.fieldLink RX0 39 "OwnedPlaces$Code" "placeRoute" "[I") (wm_c_code 14 rfl)) (fun _ h9 => h9) rfl hin rfl (by decide +kernel) rfl rfl (Nat.le_of_ble_eq_true rfl) dX0_init_91 (fun H locs hP hD hS => ?_)
  have hP : va_P (dC, dI) vwCl [(h, .inr (0, [.ref q_1, .ref q_3, .ref q_5, .ref q_7, .ref q_9, .int 0, .ref q_11, .int 0, .ref q_13, .ref q_15, .ref q_17, .ref q_19, .null, .null, .null, .int 0, .null, .int 0]))] H := hP
  have hD : va_D A [(h, .inr (0, [.ref q_1, .ref q_3, .ref q_5, .ref q_7, .ref q_9, .int 0, .ref q_11, .int 0, .ref q_13, .ref q_15, .ref q_17, .ref q_19, .null, .null, .null, .int 0, .null, .int 0]))] := hD
  refine lv_aload_n hx hb dX0_init_94 rfl (lv_at hl 0 rfl) ?_
  refine lv_sipush (v := 3002) hx hb dX0_init_95 (by decide) ?_
  refine va_newa (atype := .int) (a0 := (3002, .inl (fun _ => 0))) (ty := .int) hx hb (hts (.arrayClass .int) (wm_c_code 4 rfl)) rfl hK hP hD hS hA (fun _ => rfl) (by decide) (by decide +kernel) (show 3002 * 4 ≤ 536870912 by omega) (show 10 + 1 ≤ 14 by omega) (show 43108 + 3002 ≤ 55116 by omega) dX0_init_98 (fun q_21 k_22 H _ hP hD hS => ?_)
  have hP := hP.sub (ws' := [(h, .inr (0, [.ref q_1, .ref q_3, .ref q_5, .ref q_7, .ref q_9, .int 0, .ref q_11, .int 0, .ref q_13, .ref q_15, .ref q_17, .ref q_19, .null, .null, .null, .int 0, .null, .int 0]))]) [0] rfl
  have hD := hD.sub (ws' := [(h, .inr (0, [.ref q_1, .ref q_3, .ref q_5, .ref q_7, .ref q_9, .int 0, .ref q_11, .int 0, .ref q_13, .ref q_15, .ref q_17, .ref q_19, .null, .null, .null, .int 0, .null, .int 0]))]) [0] (by decide) rfl
  refine W.widen (k := 11) (n := 46110) (by omega) (by omega) ?_
  refine va_putF (D := (dC, dI)) (ci := 0) (v := .ref q_21) (ty := (.array .int)) (C := RX0) (T := TX0) (N := 18) hx hb hts in_c_code_X0 tyX0 tyX0_ok nmX0 hown hK hP hD hS 0 rfl rfl 12 (by decide) (hts (.fieldLink RX0 42 "OwnedPlaces$Code" "placeType" "[I") (wm_c_code 15 rfl)) (fun _ h9 => h9) rfl hin rfl (by decide +kernel) rfl rfl (Nat.le_of_ble_eq_true rfl) dX0_init_100 (fun H locs hP hD hS => ?_)
  have hP : va_P (dC, dI) vwCl [(h, .inr (0, [.ref q_1, .ref q_3, .ref q_5, .ref q_7, .ref q_9, .int 0, .ref q_11, .int 0, .ref q_13, .ref q_15, .ref q_17, .ref q_19, .ref q_21, .null, .null, .int 0, .null, .int 0]))] H := hP
  have hD : va_D A [(h, .inr (0, [.ref q_1, .ref q_3, .ref q_5, .ref q_7, .ref q_9, .int 0, .ref q_11, .int 0, .ref q_13, .ref q_15, .ref q_17, .ref q_19, .ref q_21, .null, .null, .int 0, .null, .int 0]))] := hD
  refine lv_aload_n hx hb dX0_init_103 rfl (lv_at hl 0 rfl) ?_
  refine lv_sipush (v := 3002) hx hb dX0_init_104 (by decide) ?_
  refine va_newa (atype := .int) (a0 := (3002, .inl (fun _ => 0))) (ty := .int) hx hb (hts (.arrayClass .int) (wm_c_code 4 rfl)) rfl hK hP hD hS hA (fun _ => rfl) (by decide) (by decide +kernel) (show 3002 * 4 ≤ 536870912 by omega) (show 11 + 1 ≤ 14 by omega) (show 46110 + 3002 ≤ 55116 by omega) dX0_init_107 (fun q_23 k_24 H _ hP hD hS => ?_)
  have hP := hP.sub (ws' := [(h, .inr (0, [.ref q_1, .ref q_3, .ref q_5, .ref q_7, .ref q_9, .int 0, .ref q_11, .int 0, .ref q_13, .ref q_15, .ref q_17, .ref q_19, .ref q_21, .null, .null, .int 0, .null, .int 0]))]) [0] rfl
  have hD := hD.sub (ws' := [(h, .inr (0, [.ref q_1, .ref q_3, .ref q_5, .ref q_7, .ref q_9, .int 0, .ref q_11, .int 0, .ref q_13, .ref q_15, .ref q_17, .ref q_19, .ref q_21, .null, .null, .int 0, .null, .int 0]))]) [0] (by decide) rfl
  refine W.widen (k := 12) (n := 49112) (by omega) (by omega) ?_
  refine va_putF (D := (dC, dI)) (ci := 0) (v := .ref q_23) (ty := (.array .int)) (C := RX0) (T := TX0) (N := 18) hx hb hts in_c_code_X0 tyX0 tyX0_ok nmX0 hown hK hP hD hS 0 rfl rfl 13 (by decide) (hts (.fieldLink RX0 45 "OwnedPlaces$Code" "placeWhere" "[I") (wm_c_code 16 rfl)) (fun _ h9 => h9) rfl hin rfl (by decide +kernel) rfl rfl (Nat.le_of_ble_eq_true rfl) dX0_init_109 (fun H locs hP hD hS => ?_)
  have hP : va_P (dC, dI) vwCl [(h, .inr (0, [.ref q_1, .ref q_3, .ref q_5, .ref q_7, .ref q_9, .int 0, .ref q_11, .int 0, .ref q_13, .ref q_15, .ref q_17, .ref q_19, .ref q_21, .ref q_23, .null, .int 0, .null, .int 0]))] H := hP
  have hD : va_D A [(h, .inr (0, [.ref q_1, .ref q_3, .ref q_5, .ref q_7, .ref q_9, .int 0, .ref q_11, .int 0, .ref q_13, .ref q_15, .ref q_17, .ref q_19, .ref q_21, .ref q_23, .null, .int 0, .null, .int 0]))] := hD
  refine lv_aload_n hx hb dX0_init_112 rfl (lv_at hl 0 rfl) ?_
  refine lv_sipush (v := 3002) hx hb dX0_init_113 (by decide) ?_
  refine va_newa (atype := .int) (a0 := (3002, .inl (fun _ => 0))) (ty := .int) hx hb (hts (.arrayClass .int) (wm_c_code 4 rfl)) rfl hK hP hD hS hA (fun _ => rfl) (by decide) (by decide +kernel) (show 3002 * 4 ≤ 536870912 by omega) (show 12 + 1 ≤ 14 by omega) (show 49112 + 3002 ≤ 55116 by omega) dX0_init_116 (fun q_25 k_26 H _ hP hD hS => ?_)
  have hP := hP.sub (ws' := [(h, .inr (0, [.ref q_1, .ref q_3, .ref q_5, .ref q_7, .ref q_9, .int 0, .ref q_11, .int 0, .ref q_13, .ref q_15, .ref q_17, .ref q_19, .ref q_21, .ref q_23, .null, .int 0, .null, .int 0]))]) [0] rfl
  have hD := hD.sub (ws' := [(h, .inr (0, [.ref q_1, .ref q_3, .ref q_5, .ref q_7, .ref q_9, .int 0, .ref q_11, .int 0, .ref q_13, .ref q_15, .ref q_17, .ref q_19, .ref q_21, .ref q_23, .null, .int 0, .null, .int 0]))]) [0] (by decide) rfl
  refine W.widen (k := 13) (n := 52114) (by omega) (by omega) ?_
  refine va_putF (D := (dC, dI)) (ci := 0) (v := .ref q_25) (ty := (.array .int)) (C := RX0) (T := TX0) (N := 18) hx hb hts in_c_code_X0 tyX0 tyX0_ok nmX0 hown hK hP hD hS 0 rfl rfl 14 (by decide) (hts (.fieldLink RX0 48 "OwnedPlaces$Code" "placeCells" "[I") (wm_c_code 17 rfl)) (fun _ h9 => h9) rfl hin rfl (by decide +kernel) rfl rfl (Nat.le_of_ble_eq_true rfl) dX0_init_118 (fun H locs hP hD hS => ?_)
  have hP : va_P (dC, dI) vwCl [(h, .inr (0, [.ref q_1, .ref q_3, .ref q_5, .ref q_7, .ref q_9, .int 0, .ref q_11, .int 0, .ref q_13, .ref q_15, .ref q_17, .ref q_19, .ref q_21, .ref q_23, .ref q_25, .int 0, .null, .int 0]))] H := hP
  have hD : va_D A [(h, .inr (0, [.ref q_1, .ref q_3, .ref q_5, .ref q_7, .ref q_9, .int 0, .ref q_11, .int 0, .ref q_13, .ref q_15, .ref q_17, .ref q_19, .ref q_21, .ref q_23, .ref q_25, .int 0, .null, .int 0]))] := hD
  refine lv_aload_n hx hb dX0_init_121 rfl (lv_at hl 0 rfl) ?_
  refine lv_sipush (v := 3002) hx hb dX0_init_122 (by decide) ?_
  refine va_newa (atype := .int) (a0 := (3002, .inl (fun _ => 0))) (ty := .int) hx hb (hts (.arrayClass .int) (wm_c_code 4 rfl)) rfl hK hP hD hS hA (fun _ => rfl) (by decide) (by decide +kernel) (show 3002 * 4 ≤ 536870912 by omega) (show 13 + 1 ≤ 14 by omega) (show 52114 + 3002 ≤ 55116 by omega) dX0_init_125 (fun q_27 k_28 H _ hP hD hS => ?_)
  have hP := hP.sub (ws' := [(h, .inr (0, [.ref q_1, .ref q_3, .ref q_5, .ref q_7, .ref q_9, .int 0, .ref q_11, .int 0, .ref q_13, .ref q_15, .ref q_17, .ref q_19, .ref q_21, .ref q_23, .ref q_25, .int 0, .null, .int 0]))]) [0] rfl
  have hD := hD.sub (ws' := [(h, .inr (0, [.ref q_1, .ref q_3, .ref q_5, .ref q_7, .ref q_9, .int 0, .ref q_11, .int 0, .ref q_13, .ref q_15, .ref q_17, .ref q_19, .ref q_21, .ref q_23, .ref q_25, .int 0, .null, .int 0]))]) [0] (by decide) rfl
  refine W.widen (k := 14) (n := 55116) (by omega) (by omega) ?_
  refine va_putF (D := (dC, dI)) (ci := 0) (v := .ref q_27) (ty := (.array .int)) (C := RX0) (T := TX0) (N := 18) hx hb hts in_c_code_X0 tyX0 tyX0_ok nmX0 hown hK hP hD hS 0 rfl rfl 16 (by decide) (hts (.fieldLink RX0 51 "OwnedPlaces$Code" "armLabels" "[I") (wm_c_code 18 rfl)) (fun _ h9 => h9) rfl hin rfl (by decide +kernel) rfl rfl (Nat.le_of_ble_eq_true rfl) dX0_init_127 (fun H locs hP hD hS => ?_)
  have hP : va_P (dC, dI) vwCl [(h, .inr (0, [.ref q_1, .ref q_3, .ref q_5, .ref q_7, .ref q_9, .int 0, .ref q_11, .int 0, .ref q_13, .ref q_15, .ref q_17, .ref q_19, .ref q_21, .ref q_23, .ref q_25, .int 0, .ref q_27, .int 0]))] H := hP
  have hD : va_D A [(h, .inr (0, [.ref q_1, .ref q_3, .ref q_5, .ref q_7, .ref q_9, .int 0, .ref q_11, .int 0, .ref q_13, .ref q_15, .ref q_17, .ref q_19, .ref q_21, .ref q_23, .ref q_25, .int 0, .ref q_27, .int 0]))] := hD
  refine W.widen (k := 14) (n := 55116) (by omega) (by omega) ?_
  exact W.vret hx hb hr (fun tS ht hW => ⟨⟨(), rfl, trivial, trivial⟩, hS.F ht⟩) hS.2.2 dX0_init_130
def wf_c_typing : List Cond := [.code yX11_init cX11_init 5 none, .methodLink RX11 3 objectInit, .instanceMethod objectInit, .code objectInit ⟨#[0xb1]⟩ 1 none, .fieldLink RX11 9 "OwnedPlaces$Typing" "text" "LOwnedPlaces$Text;", .fieldLink RX11 15 "OwnedPlaces$Typing" "types" "LOwnedPlaces$Types;", .fieldLink RX11 19 "OwnedPlaces$Typing" "declared" "LOwnedPlaces$Declarations;", .fieldLink RX11 23 "OwnedPlaces$Typing" "code" "LOwnedPlaces$Code;"]
def wp_c_typing : List Cond := wf_c_typing ++ (wsX110 ++ [])
theorem in_c_typing_X11 : ∀ w ∈ wsX110, w ∈ wp_c_typing := fun w h => List.mem_append_right _ (List.mem_append_left _ h)
theorem wg_c_typing : wf_c_typing.all goodWord = true := by decide +kernel
theorem wm_c_typing (k : Nat) {w : Cond} (h : wp_c_typing[k]? = some w) : w ∈ wp_c_typing := List.mem_of_getElem? h
set_option maxHeartbeats 4000000 in
set_option maxRecDepth 100000 in
theorem c_typing (l : Launch) (dC : Nat → ClassId) (dI : Nat → Nat → Nat) (h a0 a1 a2 a3 : Nat) (sz : Nat) : Met l yX11_init wp_c_typing ({ frames := 1, cells := 0, slots := 0, locals := 12 }) (va_Pc [.ref h, .ref a0, .ref a1, .ref a2, .ref a3] (fun U => U.heap.size = sz ∧ va_P (dC, dI) vwCl [(h, .inr (11, [.null, .null, .null, .null, .null, .int 0, .int 0, .int 0, .int 0, .int 0, .int 0, .int 0, .int 0]))] U.heap ∧ va_K (dC, dI) vwCl [] U ∧ va_D (fun _ => True) [(h, .inr (11, [.null, .null, .null, .null, .null, .int 0, .int 0, .int 0, .int 0, .int 0, .int 0, .int 0, .int 0]))])) (va_Qv (fun _ : Unit => True) (fun (_ : Unit) (_ : State) => True) (va_A [(h, .inr (11, [.null, .null, .null, .null, .null, .int 0, .int 0, .int 0, .int 0, .int 0, .int 0, .int 0, .int 0]))] sz)) 0 0 (va_A [(h, .inr (11, [.null, .null, .null, .null, .null, .int 0, .int 0, .int 0, .int 0, .int 0, .int 0, .int 0, .int 0]))] sz) := by
  refine Met.ofW (cc := cX11_init) (maxL := 5) (ret := none) (by decide) rfl ?_
  intro p e s m args below meth c s₁ B hml hv
  obtain ⟨rfl, hsz, hP, hK, hD0⟩ := hv
  have hx := B.exec
  have hb := B.bytes
  have hr := B.returns
  have hts := atoms_spec (ws := wp_c_typing) B.pre
  have hown : s.vm.findClass RX11 = some m.cls := findClass_of_methodNamed B.named
  have hlocks := B.notSynchronized
  have hin : meth.name = "<init>" := (name_of_methodNamed B.named B.method).1
  subst hsz
  have hD := hD0.self (sz := s.heap.size)
  generalize hAe : va_A [(h, .inr (11, [.null, .null, .null, .null, .null, .int 0, .int 0, .int 0, .int 0, .int 0, .int 0, .int 0, .int 0]))] s.heap.size = A at hD ⊢
  have hA : ∀ q : Nat, s.heap.size ≤ q → A q := fun q h => by rw [← hAe]; exact Or.inr h
  have hS : va_S A s.heap s.heap [] := va_S.rf
  have hP : va_P (dC, dI) vwCl [(h, .inr (11, [.null, .null, .null, .null, .null, .int 0, .int 0, .int 0, .int 0, .int 0, .int 0, .int 0, .int 0]))] s.heap := hP
  have hl := lv_entry ([.ref h, .ref a0, .ref a1, .ref a2, .ref a3]) (n := 5) (Nat.le_of_ble_eq_true rfl)
  rw [lg_entry_eq]
  generalize (lg_sl ([.ref h, .ref a0, .ref a1, .ref a2, .ref a3]) ++ List.replicate (5 - (lg_sl ([.ref h, .ref a0, .ref a1, .ref a2, .ref a3])).length) Slot.unset).toArray = ls at hl ⊢
  have hl : lv_has ls 5 [(0, .ref h), (1, .ref a0), (2, .ref a1), (3, .ref a2), (4, .ref a3)] := hl
  refine lv_aload_n hx hb dX11_init_0 rfl (lv_at hl 0 rfl) ?_
  refine W.objInit hx hb hown (hts (.methodLink RX11 3 objectInit) (wm_c_typing 1 rfl)) (hts (.instanceMethod objectInit) (wm_c_typing 2 rfl)) (hts (.code objectInit ⟨#[0xb1]⟩ 1 none) (wm_c_typing 3 rfl)) rfl (by rw [hml]; exact hl.1) rfl dX11_init_1 (Nat.le_of_ble_eq_true rfl) (Nat.le_of_ble_eq_true rfl) ?_
  refine W.eq (g2 := F0 m 4 ls []) rfl ?_
  refine lv_aload_n hx hb dX11_init_4 rfl (lv_at hl 0 rfl) ?_
  refine lv_aload_n hx hb dX11_init_5 rfl (lv_at hl 1 rfl) ?_
  refine va_putF (D := (dC, dI)) (ci := 11) (v := .ref a0) (ty := (.object "OwnedPlaces$Text")) (C := RX11) (T := TX11) (N := 13) hx hb hts in_c_typing_X11 tyX11 tyX11_ok nmX11 hown hK hP hD hS 0 rfl rfl 0 (by decide) (hts (.fieldLink RX11 9 "OwnedPlaces$Typing" "text" "LOwnedPlaces$Text;") (wm_c_typing 4 rfl)) (fun _ h9 => h9) rfl hin rfl (by decide +kernel) rfl rfl (Nat.le_of_ble_eq_true rfl) dX11_init_6 (fun H locs hP hD hS => ?_)
  have hP : va_P (dC, dI) vwCl [(h, .inr (11, [.ref a0, .null, .null, .null, .null, .int 0, .int 0, .int 0, .int 0, .int 0, .int 0, .int 0, .int 0]))] H := hP
  have hD : va_D A [(h, .inr (11, [.ref a0, .null, .null, .null, .null, .int 0, .int 0, .int 0, .int 0, .int 0, .int 0, .int 0, .int 0]))] := hD
  refine lv_aload_n hx hb dX11_init_9 rfl (lv_at hl 0 rfl) ?_
  refine lv_aload_n hx hb dX11_init_10 rfl (lv_at hl 2 rfl) ?_
  refine va_putF (D := (dC, dI)) (ci := 11) (v := .ref a1) (ty := (.object "OwnedPlaces$Types")) (C := RX11) (T := TX11) (N := 13) hx hb hts in_c_typing_X11 tyX11 tyX11_ok nmX11 hown hK hP hD hS 0 rfl rfl 1 (by decide) (hts (.fieldLink RX11 15 "OwnedPlaces$Typing" "types" "LOwnedPlaces$Types;") (wm_c_typing 5 rfl)) (fun _ h9 => h9) rfl hin rfl (by decide +kernel) rfl rfl (Nat.le_of_ble_eq_true rfl) dX11_init_11 (fun H locs hP hD hS => ?_)
  have hP : va_P (dC, dI) vwCl [(h, .inr (11, [.ref a0, .ref a1, .null, .null, .null, .int 0, .int 0, .int 0, .int 0, .int 0, .int 0, .int 0, .int 0]))] H := hP
  have hD : va_D A [(h, .inr (11, [.ref a0, .ref a1, .null, .null, .null, .int 0, .int 0, .int 0, .int 0, .int 0, .int 0, .int 0, .int 0]))] := hD
  refine lv_aload_n hx hb dX11_init_14 rfl (lv_at hl 0 rfl) ?_
  refine lv_aload_n hx hb dX11_init_15 rfl (lv_at hl 3 rfl) ?_
  refine va_putF (D := (dC, dI)) (ci := 11) (v := .ref a2) (ty := (.object "OwnedPlaces$Declarations")) (C := RX11) (T := TX11) (N := 13) hx hb hts in_c_typing_X11 tyX11 tyX11_ok nmX11 hown hK hP hD hS 0 rfl rfl 2 (by decide) (hts (.fieldLink RX11 19 "OwnedPlaces$Typing" "declared" "LOwnedPlaces$Declarations;") (wm_c_typing 6 rfl)) (fun _ h9 => h9) rfl hin rfl (by decide +kernel) rfl rfl (Nat.le_of_ble_eq_true rfl) dX11_init_16 (fun H locs hP hD hS => ?_)
  have hP : va_P (dC, dI) vwCl [(h, .inr (11, [.ref a0, .ref a1, .ref a2, .null, .null, .int 0, .int 0, .int 0, .int 0, .int 0, .int 0, .int 0, .int 0]))] H := hP
  have hD : va_D A [(h, .inr (11, [.ref a0, .ref a1, .ref a2, .null, .null, .int 0, .int 0, .int 0, .int 0, .int 0, .int 0, .int 0, .int 0]))] := hD
  refine lv_aload_n hx hb dX11_init_19 rfl (lv_at hl 0 rfl) ?_
  refine lv_aload hx hb dX11_init_20 (lv_at hl 4 rfl) ?_
  refine va_putF (D := (dC, dI)) (ci := 11) (v := .ref a3) (ty := (.object "OwnedPlaces$Code")) (C := RX11) (T := TX11) (N := 13) hx hb hts in_c_typing_X11 tyX11 tyX11_ok nmX11 hown hK hP hD hS 0 rfl rfl 3 (by decide) (hts (.fieldLink RX11 23 "OwnedPlaces$Typing" "code" "LOwnedPlaces$Code;") (wm_c_typing 7 rfl)) (fun _ h9 => h9) rfl hin rfl (by decide +kernel) rfl rfl (Nat.le_of_ble_eq_true rfl) dX11_init_22 (fun H locs hP hD hS => ?_)
  have hP : va_P (dC, dI) vwCl [(h, .inr (11, [.ref a0, .ref a1, .ref a2, .ref a3, .null, .int 0, .int 0, .int 0, .int 0, .int 0, .int 0, .int 0, .int 0]))] H := hP
  have hD : va_D A [(h, .inr (11, [.ref a0, .ref a1, .ref a2, .ref a3, .null, .int 0, .int 0, .int 0, .int 0, .int 0, .int 0, .int 0, .int 0]))] := hD
  exact W.vret hx hb hr (fun tS ht hW => ⟨⟨(), rfl, trivial, trivial⟩, hS.F ht⟩) hS.2.2 dX11_init_25
def wf_c_moves : List Cond := [.code yX7_init cX7_init 3 none, .methodLink RX7 3 objectInit, .instanceMethod objectInit, .code objectInit ⟨#[0xb1]⟩ 1 none, .arrayClass .int, .fieldLink RX7 9 "OwnedPlaces$Moves" "state" "[I", .constant RX7 15 44000, .fieldLink RX7 16 "OwnedPlaces$Moves" "rows" "[I", .arrayClass .boolean, .fieldLink RX7 19 "OwnedPlaces$Moves" "reached" "[Z", .fieldLink RX7 23 "OwnedPlaces$Moves" "types" "LOwnedPlaces$Types;", .fieldLink RX7 27 "OwnedPlaces$Moves" "code" "LOwnedPlaces$Code;"]
def wp_c_moves : List Cond := wf_c_moves ++ (wsX70 ++ [])
theorem in_c_moves_X7 : ∀ w ∈ wsX70, w ∈ wp_c_moves := fun w h => List.mem_append_right _ (List.mem_append_left _ h)
theorem wg_c_moves : wf_c_moves.all goodWord = true := by decide +kernel
theorem wm_c_moves (k : Nat) {w : Cond} (h : wp_c_moves[k]? = some w) : w ∈ wp_c_moves := List.mem_of_getElem? h
set_option maxHeartbeats 4000000 in
set_option maxRecDepth 100000 in
theorem c_moves (l : Launch) (dC : Nat → ClassId) (dI : Nat → Nat → Nat) (h a0 a1 : Nat) (sz : Nat) : Met l yX7_init wp_c_moves ({ frames := 1, cells := 3, slots := 45140, locals := 12 }) (va_Pc [.ref h, .ref a0, .ref a1] (fun U => U.heap.size = sz ∧ va_P (dC, dI) vwCl [(h, .inr (7, [.null, .null, .null, .null, .null, .null, .int 0, .int 0, .int 0]))] U.heap ∧ va_K (dC, dI) vwCl [] U ∧ va_D (fun _ => True) [(h, .inr (7, [.null, .null, .null, .null, .null, .null, .int 0, .int 0, .int 0]))])) (va_Qv (fun _ : Unit => True) (fun (_ : Unit) (_ : State) => True) (va_A [(h, .inr (7, [.null, .null, .null, .null, .null, .null, .int 0, .int 0, .int 0]))] sz)) 3 45140 (va_A [(h, .inr (7, [.null, .null, .null, .null, .null, .null, .int 0, .int 0, .int 0]))] sz) := by
  refine Met.ofW (cc := cX7_init) (maxL := 3) (ret := none) (by decide) rfl ?_
  intro p e s m args below meth c s₁ B hml hv
  obtain ⟨rfl, hsz, hP, hK, hD0⟩ := hv
  have hx := B.exec
  have hb := B.bytes
  have hr := B.returns
  have hts := atoms_spec (ws := wp_c_moves) B.pre
  have hown : s.vm.findClass RX7 = some m.cls := findClass_of_methodNamed B.named
  have hlocks := B.notSynchronized
  have hin : meth.name = "<init>" := (name_of_methodNamed B.named B.method).1
  subst hsz
  have hD := hD0.self (sz := s.heap.size)
  generalize hAe : va_A [(h, .inr (7, [.null, .null, .null, .null, .null, .null, .int 0, .int 0, .int 0]))] s.heap.size = A at hD ⊢
  have hA : ∀ q : Nat, s.heap.size ≤ q → A q := fun q h => by rw [← hAe]; exact Or.inr h
  have hS : va_S A s.heap s.heap [] := va_S.rf
  have hP : va_P (dC, dI) vwCl [(h, .inr (7, [.null, .null, .null, .null, .null, .null, .int 0, .int 0, .int 0]))] s.heap := hP
  have hl := lv_entry ([.ref h, .ref a0, .ref a1]) (n := 3) (Nat.le_of_ble_eq_true rfl)
  rw [lg_entry_eq]
  generalize (lg_sl ([.ref h, .ref a0, .ref a1]) ++ List.replicate (3 - (lg_sl ([.ref h, .ref a0, .ref a1])).length) Slot.unset).toArray = ls at hl ⊢
  have hl : lv_has ls 3 [(0, .ref h), (1, .ref a0), (2, .ref a1)] := hl
  refine lv_aload_n hx hb dX7_init_0 rfl (lv_at hl 0 rfl) ?_
  refine W.objInit hx hb hown (hts (.methodLink RX7 3 objectInit) (wm_c_moves 1 rfl)) (hts (.instanceMethod objectInit) (wm_c_moves 2 rfl)) (hts (.code objectInit ⟨#[0xb1]⟩ 1 none) (wm_c_moves 3 rfl)) rfl (by rw [hml]; exact hl.1) rfl dX7_init_1 (Nat.le_of_ble_eq_true rfl) (Nat.le_of_ble_eq_true rfl) ?_
  refine W.eq (g2 := F0 m 4 ls []) rfl ?_
  refine lv_aload_n hx hb dX7_init_4 rfl (lv_at hl 0 rfl) ?_
  refine lv_bipush (v := 40) hx hb dX7_init_5 (by decide) ?_
  refine va_newa (atype := .int) (a0 := (40, .inl (fun _ => 0))) (ty := .int) hx hb (hts (.arrayClass .int) (wm_c_moves 4 rfl)) rfl hK hP hD hS hA (fun _ => rfl) (by decide) (by decide +kernel) (show 40 * 4 ≤ 536870912 by omega) (show 0 + 1 ≤ 3 by omega) (show 0 + 40 ≤ 45140 by omega) dX7_init_7 (fun q_1 k_2 H _ hP hD hS => ?_)
  have hP := hP.sub (ws' := [(h, .inr (7, [.null, .null, .null, .null, .null, .null, .int 0, .int 0, .int 0]))]) [0] rfl
  have hD := hD.sub (ws' := [(h, .inr (7, [.null, .null, .null, .null, .null, .null, .int 0, .int 0, .int 0]))]) [0] (by decide) rfl
  refine W.widen (k := 1) (n := 40) (by omega) (by omega) ?_
  refine va_putF (D := (dC, dI)) (ci := 7) (v := .ref q_1) (ty := (.array .int)) (C := RX7) (T := TX7) (N := 9) hx hb hts in_c_moves_X7 tyX7 tyX7_ok nmX7 hown hK hP hD hS 0 rfl rfl 3 (by decide) (hts (.fieldLink RX7 9 "OwnedPlaces$Moves" "state" "[I") (wm_c_moves 5 rfl)) (fun _ h9 => h9) rfl hin rfl (by decide +kernel) rfl rfl (Nat.le_of_ble_eq_true rfl) dX7_init_9 (fun H locs hP hD hS => ?_)
  have hP : va_P (dC, dI) vwCl [(h, .inr (7, [.null, .null, .null, .ref q_1, .null, .null, .int 0, .int 0, .int 0]))] H := hP
  have hD : va_D A [(h, .inr (7, [.null, .null, .null, .ref q_1, .null, .null, .int 0, .int 0, .int 0]))] := hD
  refine lv_aload_n hx hb dX7_init_12 rfl (lv_at hl 0 rfl) ?_
  refine lv_ldc (v := 44000) hx hb hown (hts (.constant RX7 15 44000) (wm_c_moves 6 rfl)) dX7_init_13 ?_
  refine va_newa (atype := .int) (a0 := (44000, .inl (fun _ => 0))) (ty := .int) hx hb (hts (.arrayClass .int) (wm_c_moves 4 rfl)) rfl hK hP hD hS hA (fun _ => rfl) (by decide) (by decide +kernel) (show 44000 * 4 ≤ 536870912 by omega) (show 1 + 1 ≤ 3 by omega) (show 40 + 44000 ≤ 45140 by omega) dX7_init_15 (fun q_3 k_4 H _ hP hD hS => ?_)
  have hP := hP.sub (ws' := [(h, .inr (7, [.null, .null, .null, .ref q_1, .null, .null, .int 0, .int 0, .int 0]))]) [0] rfl
  have hD := hD.sub (ws' := [(h, .inr (7, [.null, .null, .null, .ref q_1, .null, .null, .int 0, .int 0, .int 0]))]) [0] (by decide) rfl
  refine W.widen (k := 2) (n := 44040) (by omega) (by omega) ?_
  refine va_putF (D := (dC, dI)) (ci := 7) (v := .ref q_3) (ty := (.array .int)) (C := RX7) (T := TX7) (N := 9) hx hb hts in_c_moves_X7 tyX7 tyX7_ok nmX7 hown hK hP hD hS 0 rfl rfl 4 (by decide) (hts (.fieldLink RX7 16 "OwnedPlaces$Moves" "rows" "[I") (wm_c_moves 7 rfl)) (fun _ h9 => h9) rfl hin rfl (by decide +kernel) rfl rfl (Nat.le_of_ble_eq_true rfl) dX7_init_17 (fun H locs hP hD hS => ?_)
  have hP : va_P (dC, dI) vwCl [(h, .inr (7, [.null, .null, .null, .ref q_1, .ref q_3, .null, .int 0, .int 0, .int 0]))] H := hP
  have hD : va_D A [(h, .inr (7, [.null, .null, .null, .ref q_1, .ref q_3, .null, .int 0, .int 0, .int 0]))] := hD
  refine lv_aload_n hx hb dX7_init_20 rfl (lv_at hl 0 rfl) ?_
  refine lv_sipush (v := 1100) hx hb dX7_init_21 (by decide) ?_
  refine va_newa (atype := .boolean) (a0 := (1100, .inl (fun _ => 0))) (ty := .boolean) hx hb (hts (.arrayClass .boolean) (wm_c_moves 8 rfl)) rfl hK hP hD hS hA (fun _ => rfl) (by decide) (by decide +kernel) (show 1100 * 1 ≤ 536870912 by omega) (show 2 + 1 ≤ 3 by omega) (show 44040 + 1100 ≤ 45140 by omega) dX7_init_24 (fun q_5 k_6 H _ hP hD hS => ?_)
  have hP := hP.sub (ws' := [(h, .inr (7, [.null, .null, .null, .ref q_1, .ref q_3, .null, .int 0, .int 0, .int 0]))]) [0] rfl
  have hD := hD.sub (ws' := [(h, .inr (7, [.null, .null, .null, .ref q_1, .ref q_3, .null, .int 0, .int 0, .int 0]))]) [0] (by decide) rfl
  refine W.widen (k := 3) (n := 45140) (by omega) (by omega) ?_
  refine va_putF (D := (dC, dI)) (ci := 7) (v := .ref q_5) (ty := (.array .boolean)) (C := RX7) (T := TX7) (N := 9) hx hb hts in_c_moves_X7 tyX7 tyX7_ok nmX7 hown hK hP hD hS 0 rfl rfl 5 (by decide) (hts (.fieldLink RX7 19 "OwnedPlaces$Moves" "reached" "[Z") (wm_c_moves 9 rfl)) (fun _ h9 => h9) rfl hin rfl (by decide +kernel) rfl rfl (Nat.le_of_ble_eq_true rfl) dX7_init_26 (fun H locs hP hD hS => ?_)
  have hP : va_P (dC, dI) vwCl [(h, .inr (7, [.null, .null, .null, .ref q_1, .ref q_3, .ref q_5, .int 0, .int 0, .int 0]))] H := hP
  have hD : va_D A [(h, .inr (7, [.null, .null, .null, .ref q_1, .ref q_3, .ref q_5, .int 0, .int 0, .int 0]))] := hD
  refine lv_aload_n hx hb dX7_init_29 rfl (lv_at hl 0 rfl) ?_
  refine lv_aload_n hx hb dX7_init_30 rfl (lv_at hl 1 rfl) ?_
  refine va_putF (D := (dC, dI)) (ci := 7) (v := .ref a0) (ty := (.object "OwnedPlaces$Types")) (C := RX7) (T := TX7) (N := 9) hx hb hts in_c_moves_X7 tyX7 tyX7_ok nmX7 hown hK hP hD hS 0 rfl rfl 0 (by decide) (hts (.fieldLink RX7 23 "OwnedPlaces$Moves" "types" "LOwnedPlaces$Types;") (wm_c_moves 10 rfl)) (fun _ h9 => h9) rfl hin rfl (by decide +kernel) rfl rfl (Nat.le_of_ble_eq_true rfl) dX7_init_31 (fun H locs hP hD hS => ?_)
  have hP : va_P (dC, dI) vwCl [(h, .inr (7, [.ref a0, .null, .null, .ref q_1, .ref q_3, .ref q_5, .int 0, .int 0, .int 0]))] H := hP
  have hD : va_D A [(h, .inr (7, [.ref a0, .null, .null, .ref q_1, .ref q_3, .ref q_5, .int 0, .int 0, .int 0]))] := hD
  refine lv_aload_n hx hb dX7_init_34 rfl (lv_at hl 0 rfl) ?_
  refine lv_aload_n hx hb dX7_init_35 rfl (lv_at hl 2 rfl) ?_
  refine va_putF (D := (dC, dI)) (ci := 7) (v := .ref a1) (ty := (.object "OwnedPlaces$Code")) (C := RX7) (T := TX7) (N := 9) hx hb hts in_c_moves_X7 tyX7 tyX7_ok nmX7 hown hK hP hD hS 0 rfl rfl 1 (by decide) (hts (.fieldLink RX7 27 "OwnedPlaces$Moves" "code" "LOwnedPlaces$Code;") (wm_c_moves 11 rfl)) (fun _ h9 => h9) rfl hin rfl (by decide +kernel) rfl rfl (Nat.le_of_ble_eq_true rfl) dX7_init_36 (fun H locs hP hD hS => ?_)
  have hP : va_P (dC, dI) vwCl [(h, .inr (7, [.ref a0, .ref a1, .null, .ref q_1, .ref q_3, .ref q_5, .int 0, .int 0, .int 0]))] H := hP
  have hD : va_D A [(h, .inr (7, [.ref a0, .ref a1, .null, .ref q_1, .ref q_3, .ref q_5, .int 0, .int 0, .int 0]))] := hD
  refine W.widen (k := 3) (n := 45140) (by omega) (by omega) ?_
  exact W.vret hx hb hr (fun tS ht hW => ⟨⟨(), rfl, trivial, trivial⟩, hS.F ht⟩) hS.2.2 dX7_init_39
def wf_c_loans : List Cond := [.code yX4_init cX4_init 4 none, .methodLink RX4 3 objectInit, .instanceMethod objectInit, .code objectInit ⟨#[0xb1]⟩ 1 none, .arrayClass .long, .fieldLink RX4 9 "OwnedPlaces$Loans" "usedBehind" "[J", .fieldLink RX4 15 "OwnedPlaces$Loans" "usedAt" "[J", .fieldLink RX4 18 "OwnedPlaces$Loans" "held" "[J", .constant RX4 21 44000, .fieldLink RX4 22 "OwnedPlaces$Loans" "rows" "[J", .arrayClass .boolean, .fieldLink RX4 25 "OwnedPlaces$Loans" "reached" "[Z", .fieldLink RX4 29 "OwnedPlaces$Loans" "temps" "[J", .arrayClass .int, .fieldLink RX4 32 "OwnedPlaces$Loans" "placeOf" "[I", .fieldLink RX4 36 "OwnedPlaces$Loans" "heldByLoan" "[J", .fieldLink RX4 39 "OwnedPlaces$Loans" "loansOn" "[J", .fieldLink RX4 42 "OwnedPlaces$Loans" "types" "LOwnedPlaces$Types;", .fieldLink RX4 46 "OwnedPlaces$Loans" "code" "LOwnedPlaces$Code;", .fieldLink RX4 50 "OwnedPlaces$Loans" "declared" "LOwnedPlaces$Declarations;"]
def wp_c_loans : List Cond := wf_c_loans ++ (wsX40 ++ [])
theorem in_c_loans_X4 : ∀ w ∈ wsX40, w ∈ wp_c_loans := fun w h => List.mem_append_right _ (List.mem_append_left _ h)
theorem wg_c_loans : wf_c_loans.all goodWord = true := by decide +kernel
theorem wm_c_loans (k : Nat) {w : Cond} (h : wp_c_loans[k]? = some w) : w ∈ wp_c_loans := List.mem_of_getElem? h
set_option maxHeartbeats 4000000 in
set_option maxRecDepth 100000 in
theorem c_loans (l : Launch) (dC : Nat → ClassId) (dI : Nat → Nat → Nat) (h a0 a1 a2 : Nat) (sz : Nat) : Met l yX4_init wp_c_loans ({ frames := 1, cells := 9, slots := 52900, locals := 12 }) (va_Pc [.ref h, .ref a0, .ref a1, .ref a2] (fun U => U.heap.size = sz ∧ va_P (dC, dI) vwCl [(h, .inr (4, [.null, .null, .null, .null, .null, .null, .null, .null, .null, .null, .int 0, .null, .null, .null, .long 0, .int 0, .int 0, .int 0]))] U.heap ∧ va_K (dC, dI) vwCl [] U ∧ va_D (fun _ => True) [(h, .inr (4, [.null, .null, .null, .null, .null, .null, .null, .null, .null, .null, .int 0, .null, .null, .null, .long 0, .int 0, .int 0, .int 0]))])) (va_Qv (fun _ : Unit => True) (fun (_ : Unit) (_ : State) => True) (va_A [(h, .inr (4, [.null, .null, .null, .null, .null, .null, .null, .null, .null, .null, .int 0, .null, .null, .null, .long 0, .int 0, .int 0, .int 0]))] sz)) 9 52900 (va_A [(h, .inr (4, [.null, .null, .null, .null, .null, .null, .null, .null, .null, .null, .int 0, .null, .null, .null, .long 0, .int 0, .int 0, .int 0]))] sz) := by
  refine Met.ofW (cc := cX4_init) (maxL := 4) (ret := none) (by decide) rfl ?_
  intro p e s m args below meth c s₁ B hml hv
  obtain ⟨rfl, hsz, hP, hK, hD0⟩ := hv
  have hx := B.exec
  have hb := B.bytes
  have hr := B.returns
  have hts := atoms_spec (ws := wp_c_loans) B.pre
  have hown : s.vm.findClass RX4 = some m.cls := findClass_of_methodNamed B.named
  have hlocks := B.notSynchronized
  have hin : meth.name = "<init>" := (name_of_methodNamed B.named B.method).1
  subst hsz
  have hD := hD0.self (sz := s.heap.size)
  generalize hAe : va_A [(h, .inr (4, [.null, .null, .null, .null, .null, .null, .null, .null, .null, .null, .int 0, .null, .null, .null, .long 0, .int 0, .int 0, .int 0]))] s.heap.size = A at hD ⊢
  have hA : ∀ q : Nat, s.heap.size ≤ q → A q := fun q h => by rw [← hAe]; exact Or.inr h
  have hS : va_S A s.heap s.heap [] := va_S.rf
  have hP : va_P (dC, dI) vwCl [(h, .inr (4, [.null, .null, .null, .null, .null, .null, .null, .null, .null, .null, .int 0, .null, .null, .null, .long 0, .int 0, .int 0, .int 0]))] s.heap := hP
  have hl := lv_entry ([.ref h, .ref a0, .ref a1, .ref a2]) (n := 4) (Nat.le_of_ble_eq_true rfl)
  rw [lg_entry_eq]
  generalize (lg_sl ([.ref h, .ref a0, .ref a1, .ref a2]) ++ List.replicate (4 - (lg_sl ([.ref h, .ref a0, .ref a1, .ref a2])).length) Slot.unset).toArray = ls at hl ⊢
  have hl : lv_has ls 4 [(0, .ref h), (1, .ref a0), (2, .ref a1), (3, .ref a2)] := hl
  refine lv_aload_n hx hb dX4_init_0 rfl (lv_at hl 0 rfl) ?_
  refine W.objInit hx hb hown (hts (.methodLink RX4 3 objectInit) (wm_c_loans 1 rfl)) (hts (.instanceMethod objectInit) (wm_c_loans 2 rfl)) (hts (.code objectInit ⟨#[0xb1]⟩ 1 none) (wm_c_loans 3 rfl)) rfl (by rw [hml]; exact hl.1) rfl dX4_init_1 (Nat.le_of_ble_eq_true rfl) (Nat.le_of_ble_eq_true rfl) ?_
  refine W.eq (g2 := F0 m 4 ls []) rfl ?_
  refine lv_aload_n hx hb dX4_init_4 rfl (lv_at hl 0 rfl) ?_
  refine lv_sipush (v := 6000) hx hb dX4_init_5 (by decide) ?_
  refine va_newa (atype := .long) (a0 := (6000, .inr (.inl (fun _ => 0)))) (ty := .long) hx hb (hts (.arrayClass .long) (wm_c_loans 4 rfl)) rfl hK hP hD hS hA (fun _ => rfl) (by decide) (by decide +kernel) (show 6000 * 8 ≤ 536870912 by omega) (show 0 + 1 ≤ 9 by omega) (show 0 + 6000 ≤ 52900 by omega) dX4_init_8 (fun q_1 k_2 H _ hP hD hS => ?_)
  have hP := hP.sub (ws' := [(h, .inr (4, [.null, .null, .null, .null, .null, .null, .null, .null, .null, .null, .int 0, .null, .null, .null, .long 0, .int 0, .int 0, .int 0]))]) [0] rfl
  have hD := hD.sub (ws' := [(h, .inr (4, [.null, .null, .null, .null, .null, .null, .null, .null, .null, .null, .int 0, .null, .null, .null, .long 0, .int 0, .int 0, .int 0]))]) [0] (by decide) rfl
  refine W.widen (k := 1) (n := 6000) (by omega) (by omega) ?_
  refine va_putF (D := (dC, dI)) (ci := 4) (v := .ref q_1) (ty := (.array .long)) (C := RX4) (T := TX4) (N := 18) hx hb hts in_c_loans_X4 tyX4 tyX4_ok nmX4 hown hK hP hD hS 0 rfl rfl 4 (by decide) (hts (.fieldLink RX4 9 "OwnedPlaces$Loans" "usedBehind" "[J") (wm_c_loans 5 rfl)) (fun _ h9 => h9) rfl hin rfl (by decide +kernel) rfl rfl (Nat.le_of_ble_eq_true rfl) dX4_init_10 (fun H locs hP hD hS => ?_)
  have hP : va_P (dC, dI) vwCl [(h, .inr (4, [.null, .null, .null, .null, .ref q_1, .null, .null, .null, .null, .null, .int 0, .null, .null, .null, .long 0, .int 0, .int 0, .int 0]))] H := hP
  have hD : va_D A [(h, .inr (4, [.null, .null, .null, .null, .ref q_1, .null, .null, .null, .null, .null, .int 0, .null, .null, .null, .long 0, .int 0, .int 0, .int 0]))] := hD
  refine lv_aload_n hx hb dX4_init_13 rfl (lv_at hl 0 rfl) ?_
  refine lv_sipush (v := 1100) hx hb dX4_init_14 (by decide) ?_
  refine va_newa (atype := .long) (a0 := (1100, .inr (.inl (fun _ => 0)))) (ty := .long) hx hb (hts (.arrayClass .long) (wm_c_loans 4 rfl)) rfl hK hP hD hS hA (fun _ => rfl) (by decide) (by decide +kernel) (show 1100 * 8 ≤ 536870912 by omega) (show 1 + 1 ≤ 9 by omega) (show 6000 + 1100 ≤ 52900 by omega) dX4_init_17 (fun q_3 k_4 H _ hP hD hS => ?_)
  have hP := hP.sub (ws' := [(h, .inr (4, [.null, .null, .null, .null, .ref q_1, .null, .null, .null, .null, .null, .int 0, .null, .null, .null, .long 0, .int 0, .int 0, .int 0]))]) [0] rfl
  have hD := hD.sub (ws' := [(h, .inr (4, [.null, .null, .null, .null, .ref q_1, .null, .null, .null, .null, .null, .int 0, .null, .null, .null, .long 0, .int 0, .int 0, .int 0]))]) [0] (by decide) rfl
  refine W.widen (k := 2) (n := 7100) (by omega) (by omega) ?_
  refine va_putF (D := (dC, dI)) (ci := 4) (v := .ref q_3) (ty := (.array .long)) (C := RX4) (T := TX4) (N := 18) hx hb hts in_c_loans_X4 tyX4 tyX4_ok nmX4 hown hK hP hD hS 0 rfl rfl 5 (by decide) (hts (.fieldLink RX4 15 "OwnedPlaces$Loans" "usedAt" "[J") (wm_c_loans 6 rfl)) (fun _ h9 => h9) rfl hin rfl (by decide +kernel) rfl rfl (Nat.le_of_ble_eq_true rfl) dX4_init_19 (fun H locs hP hD hS => ?_)
  have hP : va_P (dC, dI) vwCl [(h, .inr (4, [.null, .null, .null, .null, .ref q_1, .ref q_3, .null, .null, .null, .null, .int 0, .null, .null, .null, .long 0, .int 0, .int 0, .int 0]))] H := hP
  have hD : va_D A [(h, .inr (4, [.null, .null, .null, .null, .ref q_1, .ref q_3, .null, .null, .null, .null, .int 0, .null, .null, .null, .long 0, .int 0, .int 0, .int 0]))] := hD
  refine lv_aload_n hx hb dX4_init_22 rfl (lv_at hl 0 rfl) ?_
  refine lv_bipush (v := 40) hx hb dX4_init_23 (by decide) ?_
  refine va_newa (atype := .long) (a0 := (40, .inr (.inl (fun _ => 0)))) (ty := .long) hx hb (hts (.arrayClass .long) (wm_c_loans 4 rfl)) rfl hK hP hD hS hA (fun _ => rfl) (by decide) (by decide +kernel) (show 40 * 8 ≤ 536870912 by omega) (show 2 + 1 ≤ 9 by omega) (show 7100 + 40 ≤ 52900 by omega) dX4_init_25 (fun q_5 k_6 H _ hP hD hS => ?_)
  have hP := hP.sub (ws' := [(h, .inr (4, [.null, .null, .null, .null, .ref q_1, .ref q_3, .null, .null, .null, .null, .int 0, .null, .null, .null, .long 0, .int 0, .int 0, .int 0]))]) [0] rfl
  have hD := hD.sub (ws' := [(h, .inr (4, [.null, .null, .null, .null, .ref q_1, .ref q_3, .null, .null, .null, .null, .int 0, .null, .null, .null, .long 0, .int 0, .int 0, .int 0]))]) [0] (by decide) rfl
  refine W.widen (k := 3) (n := 7140) (by omega) (by omega) ?_
  refine va_putF (D := (dC, dI)) (ci := 4) (v := .ref q_5) (ty := (.array .long)) (C := RX4) (T := TX4) (N := 18) hx hb hts in_c_loans_X4 tyX4 tyX4_ok nmX4 hown hK hP hD hS 0 rfl rfl 6 (by decide) (hts (.fieldLink RX4 18 "OwnedPlaces$Loans" "held" "[J") (wm_c_loans 7 rfl)) (fun _ h9 => h9) rfl hin rfl (by decide +kernel) rfl rfl (Nat.le_of_ble_eq_true rfl) dX4_init_27 (fun H locs hP hD hS => ?_)
  have hP : va_P (dC, dI) vwCl [(h, .inr (4, [.null, .null, .null, .null, .ref q_1, .ref q_3, .ref q_5, .null, .null, .null, .int 0, .null, .null, .null, .long 0, .int 0, .int 0, .int 0]))] H := hP
  have hD : va_D A [(h, .inr (4, [.null, .null, .null, .null, .ref q_1, .ref q_3, .ref q_5, .null, .null, .null, .int 0, .null, .null, .null, .long 0, .int 0, .int 0, .int 0]))] := hD
  refine lv_aload_n hx hb dX4_init_30 rfl (lv_at hl 0 rfl) ?_
  refine lv_ldc (v := 44000) hx hb hown (hts (.constant RX4 21 44000) (wm_c_loans 8 rfl)) dX4_init_31 ?_
  refine va_newa (atype := .long) (a0 := (44000, .inr (.inl (fun _ => 0)))) (ty := .long) hx hb (hts (.arrayClass .long) (wm_c_loans 4 rfl)) rfl hK hP hD hS hA (fun _ => rfl) (by decide) (by decide +kernel) (show 44000 * 8 ≤ 536870912 by omega) (show 3 + 1 ≤ 9 by omega) (show 7140 + 44000 ≤ 52900 by omega) dX4_init_33 (fun q_7 k_8 H _ hP hD hS => ?_)
  have hP := hP.sub (ws' := [(h, .inr (4, [.null, .null, .null, .null, .ref q_1, .ref q_3, .ref q_5, .null, .null, .null, .int 0, .null, .null, .null, .long 0, .int 0, .int 0, .int 0]))]) [0] rfl
  have hD := hD.sub (ws' := [(h, .inr (4, [.null, .null, .null, .null, .ref q_1, .ref q_3, .ref q_5, .null, .null, .null, .int 0, .null, .null, .null, .long 0, .int 0, .int 0, .int 0]))]) [0] (by decide) rfl
  refine W.widen (k := 4) (n := 51140) (by omega) (by omega) ?_
  refine va_putF (D := (dC, dI)) (ci := 4) (v := .ref q_7) (ty := (.array .long)) (C := RX4) (T := TX4) (N := 18) hx hb hts in_c_loans_X4 tyX4 tyX4_ok nmX4 hown hK hP hD hS 0 rfl rfl 7 (by decide) (hts (.fieldLink RX4 22 "OwnedPlaces$Loans" "rows" "[J") (wm_c_loans 9 rfl)) (fun _ h9 => h9) rfl hin rfl (by decide +kernel) rfl rfl (Nat.le_of_ble_eq_true rfl) dX4_init_35 (fun H locs hP hD hS => ?_)
  have hP : va_P (dC, dI) vwCl [(h, .inr (4, [.null, .null, .null, .null, .ref q_1, .ref q_3, .ref q_5, .ref q_7, .null, .null, .int 0, .null, .null, .null, .long 0, .int 0, .int 0, .int 0]))] H := hP
  have hD : va_D A [(h, .inr (4, [.null, .null, .null, .null, .ref q_1, .ref q_3, .ref q_5, .ref q_7, .null, .null, .int 0, .null, .null, .null, .long 0, .int 0, .int 0, .int 0]))] := hD
  refine lv_aload_n hx hb dX4_init_38 rfl (lv_at hl 0 rfl) ?_
  refine lv_sipush (v := 1100) hx hb dX4_init_39 (by decide) ?_
  refine va_newa (atype := .boolean) (a0 := (1100, .inl (fun _ => 0))) (ty := .boolean) hx hb (hts (.arrayClass .boolean) (wm_c_loans 10 rfl)) rfl hK hP hD hS hA (fun _ => rfl) (by decide) (by decide +kernel) (show 1100 * 1 ≤ 536870912 by omega) (show 4 + 1 ≤ 9 by omega) (show 51140 + 1100 ≤ 52900 by omega) dX4_init_42 (fun q_9 k_10 H _ hP hD hS => ?_)
  have hP := hP.sub (ws' := [(h, .inr (4, [.null, .null, .null, .null, .ref q_1, .ref q_3, .ref q_5, .ref q_7, .null, .null, .int 0, .null, .null, .null, .long 0, .int 0, .int 0, .int 0]))]) [0] rfl
  have hD := hD.sub (ws' := [(h, .inr (4, [.null, .null, .null, .null, .ref q_1, .ref q_3, .ref q_5, .ref q_7, .null, .null, .int 0, .null, .null, .null, .long 0, .int 0, .int 0, .int 0]))]) [0] (by decide) rfl
  refine W.widen (k := 5) (n := 52240) (by omega) (by omega) ?_
  refine va_putF (D := (dC, dI)) (ci := 4) (v := .ref q_9) (ty := (.array .boolean)) (C := RX4) (T := TX4) (N := 18) hx hb hts in_c_loans_X4 tyX4 tyX4_ok nmX4 hown hK hP hD hS 0 rfl rfl 8 (by decide) (hts (.fieldLink RX4 25 "OwnedPlaces$Loans" "reached" "[Z") (wm_c_loans 11 rfl)) (fun _ h9 => h9) rfl hin rfl (by decide +kernel) rfl rfl (Nat.le_of_ble_eq_true rfl) dX4_init_44 (fun H locs hP hD hS => ?_)
  have hP : va_P (dC, dI) vwCl [(h, .inr (4, [.null, .null, .null, .null, .ref q_1, .ref q_3, .ref q_5, .ref q_7, .ref q_9, .null, .int 0, .null, .null, .null, .long 0, .int 0, .int 0, .int 0]))] H := hP
  have hD : va_D A [(h, .inr (4, [.null, .null, .null, .null, .ref q_1, .ref q_3, .ref q_5, .ref q_7, .ref q_9, .null, .int 0, .null, .null, .null, .long 0, .int 0, .int 0, .int 0]))] := hD
  refine lv_aload_n hx hb dX4_init_47 rfl (lv_at hl 0 rfl) ?_
  refine lv_sipush (v := 512) hx hb dX4_init_48 (by decide) ?_
  refine va_newa (atype := .long) (a0 := (512, .inr (.inl (fun _ => 0)))) (ty := .long) hx hb (hts (.arrayClass .long) (wm_c_loans 4 rfl)) rfl hK hP hD hS hA (fun _ => rfl) (by decide) (by decide +kernel) (show 512 * 8 ≤ 536870912 by omega) (show 5 + 1 ≤ 9 by omega) (show 52240 + 512 ≤ 52900 by omega) dX4_init_51 (fun q_11 k_12 H _ hP hD hS => ?_)
  have hP := hP.sub (ws' := [(h, .inr (4, [.null, .null, .null, .null, .ref q_1, .ref q_3, .ref q_5, .ref q_7, .ref q_9, .null, .int 0, .null, .null, .null, .long 0, .int 0, .int 0, .int 0]))]) [0] rfl
  have hD := hD.sub (ws' := [(h, .inr (4, [.null, .null, .null, .null, .ref q_1, .ref q_3, .ref q_5, .ref q_7, .ref q_9, .null, .int 0, .null, .null, .null, .long 0, .int 0, .int 0, .int 0]))]) [0] (by decide) rfl
  refine W.widen (k := 6) (n := 52752) (by omega) (by omega) ?_
  refine va_putF (D := (dC, dI)) (ci := 4) (v := .ref q_11) (ty := (.array .long)) (C := RX4) (T := TX4) (N := 18) hx hb hts in_c_loans_X4 tyX4 tyX4_ok nmX4 hown hK hP hD hS 0 rfl rfl 9 (by decide) (hts (.fieldLink RX4 29 "OwnedPlaces$Loans" "temps" "[J") (wm_c_loans 12 rfl)) (fun _ h9 => h9) rfl hin rfl (by decide +kernel) rfl rfl (Nat.le_of_ble_eq_true rfl) dX4_init_53 (fun H locs hP hD hS => ?_)
  have hP : va_P (dC, dI) vwCl [(h, .inr (4, [.null, .null, .null, .null, .ref q_1, .ref q_3, .ref q_5, .ref q_7, .ref q_9, .ref q_11, .int 0, .null, .null, .null, .long 0, .int 0, .int 0, .int 0]))] H := hP
  have hD : va_D A [(h, .inr (4, [.null, .null, .null, .null, .ref q_1, .ref q_3, .ref q_5, .ref q_7, .ref q_9, .ref q_11, .int 0, .null, .null, .null, .long 0, .int 0, .int 0, .int 0]))] := hD
  refine lv_aload_n hx hb dX4_init_56 rfl (lv_at hl 0 rfl) ?_
  refine lv_bipush (v := 54) hx hb dX4_init_57 (by decide) ?_
  refine va_newa (atype := .int) (a0 := (54, .inl (fun _ => 0))) (ty := .int) hx hb (hts (.arrayClass .int) (wm_c_loans 13 rfl)) rfl hK hP hD hS hA (fun _ => rfl) (by decide) (by decide +kernel) (show 54 * 4 ≤ 536870912 by omega) (show 6 + 1 ≤ 9 by omega) (show 52752 + 54 ≤ 52900 by omega) dX4_init_59 (fun q_13 k_14 H _ hP hD hS => ?_)
  have hP := hP.sub (ws' := [(h, .inr (4, [.null, .null, .null, .null, .ref q_1, .ref q_3, .ref q_5, .ref q_7, .ref q_9, .ref q_11, .int 0, .null, .null, .null, .long 0, .int 0, .int 0, .int 0]))]) [0] rfl
  have hD := hD.sub (ws' := [(h, .inr (4, [.null, .null, .null, .null, .ref q_1, .ref q_3, .ref q_5, .ref q_7, .ref q_9, .ref q_11, .int 0, .null, .null, .null, .long 0, .int 0, .int 0, .int 0]))]) [0] (by decide) rfl
  refine W.widen (k := 7) (n := 52806) (by omega) (by omega) ?_
  refine va_putF (D := (dC, dI)) (ci := 4) (v := .ref q_13) (ty := (.array .int)) (C := RX4) (T := TX4) (N := 18) hx hb hts in_c_loans_X4 tyX4 tyX4_ok nmX4 hown hK hP hD hS 0 rfl rfl 11 (by decide) (hts (.fieldLink RX4 32 "OwnedPlaces$Loans" "placeOf" "[I") (wm_c_loans 14 rfl)) (fun _ h9 => h9) rfl hin rfl (by decide +kernel) rfl rfl (Nat.le_of_ble_eq_true rfl) dX4_init_61 (fun H locs hP hD hS => ?_)
  have hP : va_P (dC, dI) vwCl [(h, .inr (4, [.null, .null, .null, .null, .ref q_1, .ref q_3, .ref q_5, .ref q_7, .ref q_9, .ref q_11, .int 0, .ref q_13, .null, .null, .long 0, .int 0, .int 0, .int 0]))] H := hP
  have hD : va_D A [(h, .inr (4, [.null, .null, .null, .null, .ref q_1, .ref q_3, .ref q_5, .ref q_7, .ref q_9, .ref q_11, .int 0, .ref q_13, .null, .null, .long 0, .int 0, .int 0, .int 0]))] := hD
  refine lv_aload_n hx hb dX4_init_64 rfl (lv_at hl 0 rfl) ?_
  refine lv_bipush (v := 54) hx hb dX4_init_65 (by decide) ?_
  refine va_newa (atype := .long) (a0 := (54, .inr (.inl (fun _ => 0)))) (ty := .long) hx hb (hts (.arrayClass .long) (wm_c_loans 4 rfl)) rfl hK hP hD hS hA (fun _ => rfl) (by decide) (by decide +kernel) (show 54 * 8 ≤ 536870912 by omega) (show 7 + 1 ≤ 9 by omega) (show 52806 + 54 ≤ 52900 by omega) dX4_init_67 (fun q_15 k_16 H _ hP hD hS => ?_)
  have hP := hP.sub (ws' := [(h, .inr (4, [.null, .null, .null, .null, .ref q_1, .ref q_3, .ref q_5, .ref q_7, .ref q_9, .ref q_11, .int 0, .ref q_13, .null, .null, .long 0, .int 0, .int 0, .int 0]))]) [0] rfl
  have hD := hD.sub (ws' := [(h, .inr (4, [.null, .null, .null, .null, .ref q_1, .ref q_3, .ref q_5, .ref q_7, .ref q_9, .ref q_11, .int 0, .ref q_13, .null, .null, .long 0, .int 0, .int 0, .int 0]))]) [0] (by decide) rfl
  refine W.widen (k := 8) (n := 52860) (by omega) (by omega) ?_
  refine va_putF (D := (dC, dI)) (ci := 4) (v := .ref q_15) (ty := (.array .long)) (C := RX4) (T := TX4) (N := 18) hx hb hts in_c_loans_X4 tyX4 tyX4_ok nmX4 hown hK hP hD hS 0 rfl rfl 12 (by decide) (hts (.fieldLink RX4 36 "OwnedPlaces$Loans" "heldByLoan" "[J") (wm_c_loans 15 rfl)) (fun _ h9 => h9) rfl hin rfl (by decide +kernel) rfl rfl (Nat.le_of_ble_eq_true rfl) dX4_init_69 (fun H locs hP hD hS => ?_)
  have hP : va_P (dC, dI) vwCl [(h, .inr (4, [.null, .null, .null, .null, .ref q_1, .ref q_3, .ref q_5, .ref q_7, .ref q_9, .ref q_11, .int 0, .ref q_13, .ref q_15, .null, .long 0, .int 0, .int 0, .int 0]))] H := hP
  have hD : va_D A [(h, .inr (4, [.null, .null, .null, .null, .ref q_1, .ref q_3, .ref q_5, .ref q_7, .ref q_9, .ref q_11, .int 0, .ref q_13, .ref q_15, .null, .long 0, .int 0, .int 0, .int 0]))] := hD
  refine lv_aload_n hx hb dX4_init_72 rfl (lv_at hl 0 rfl) ?_
  refine lv_bipush (v := 40) hx hb dX4_init_73 (by decide) ?_
  refine va_newa (atype := .long) (a0 := (40, .inr (.inl (fun _ => 0)))) (ty := .long) hx hb (hts (.arrayClass .long) (wm_c_loans 4 rfl)) rfl hK hP hD hS hA (fun _ => rfl) (by decide) (by decide +kernel) (show 40 * 8 ≤ 536870912 by omega) (show 8 + 1 ≤ 9 by omega) (show 52860 + 40 ≤ 52900 by omega) dX4_init_75 (fun q_17 k_18 H _ hP hD hS => ?_)
  have hP := hP.sub (ws' := [(h, .inr (4, [.null, .null, .null, .null, .ref q_1, .ref q_3, .ref q_5, .ref q_7, .ref q_9, .ref q_11, .int 0, .ref q_13, .ref q_15, .null, .long 0, .int 0, .int 0, .int 0]))]) [0] rfl
  have hD := hD.sub (ws' := [(h, .inr (4, [.null, .null, .null, .null, .ref q_1, .ref q_3, .ref q_5, .ref q_7, .ref q_9, .ref q_11, .int 0, .ref q_13, .ref q_15, .null, .long 0, .int 0, .int 0, .int 0]))]) [0] (by decide) rfl
  refine W.widen (k := 9) (n := 52900) (by omega) (by omega) ?_
  refine va_putF (D := (dC, dI)) (ci := 4) (v := .ref q_17) (ty := (.array .long)) (C := RX4) (T := TX4) (N := 18) hx hb hts in_c_loans_X4 tyX4 tyX4_ok nmX4 hown hK hP hD hS 0 rfl rfl 13 (by decide) (hts (.fieldLink RX4 39 "OwnedPlaces$Loans" "loansOn" "[J") (wm_c_loans 16 rfl)) (fun _ h9 => h9) rfl hin rfl (by decide +kernel) rfl rfl (Nat.le_of_ble_eq_true rfl) dX4_init_77 (fun H locs hP hD hS => ?_)
  have hP : va_P (dC, dI) vwCl [(h, .inr (4, [.null, .null, .null, .null, .ref q_1, .ref q_3, .ref q_5, .ref q_7, .ref q_9, .ref q_11, .int 0, .ref q_13, .ref q_15, .ref q_17, .long 0, .int 0, .int 0, .int 0]))] H := hP
  have hD : va_D A [(h, .inr (4, [.null, .null, .null, .null, .ref q_1, .ref q_3, .ref q_5, .ref q_7, .ref q_9, .ref q_11, .int 0, .ref q_13, .ref q_15, .ref q_17, .long 0, .int 0, .int 0, .int 0]))] := hD
  refine lv_aload_n hx hb dX4_init_80 rfl (lv_at hl 0 rfl) ?_
  refine lv_aload_n hx hb dX4_init_81 rfl (lv_at hl 1 rfl) ?_
  refine va_putF (D := (dC, dI)) (ci := 4) (v := .ref a0) (ty := (.object "OwnedPlaces$Types")) (C := RX4) (T := TX4) (N := 18) hx hb hts in_c_loans_X4 tyX4 tyX4_ok nmX4 hown hK hP hD hS 0 rfl rfl 0 (by decide) (hts (.fieldLink RX4 42 "OwnedPlaces$Loans" "types" "LOwnedPlaces$Types;") (wm_c_loans 17 rfl)) (fun _ h9 => h9) rfl hin rfl (by decide +kernel) rfl rfl (Nat.le_of_ble_eq_true rfl) dX4_init_82 (fun H locs hP hD hS => ?_)
  have hP : va_P (dC, dI) vwCl [(h, .inr (4, [.ref a0, .null, .null, .null, .ref q_1, .ref q_3, .ref q_5, .ref q_7, .ref q_9, .ref q_11, .int 0, .ref q_13, .ref q_15, .ref q_17, .long 0, .int 0, .int 0, .int 0]))] H := hP
  have hD : va_D A [(h, .inr (4, [.ref a0, .null, .null, .null, .ref q_1, .ref q_3, .ref q_5, .ref q_7, .ref q_9, .ref q_11, .int 0, .ref q_13, .ref q_15, .ref q_17, .long 0, .int 0, .int 0, .int 0]))] := hD
  refine lv_aload_n hx hb dX4_init_85 rfl (lv_at hl 0 rfl) ?_
  refine lv_aload_n hx hb dX4_init_86 rfl (lv_at hl 2 rfl) ?_
  refine va_putF (D := (dC, dI)) (ci := 4) (v := .ref a1) (ty := (.object "OwnedPlaces$Code")) (C := RX4) (T := TX4) (N := 18) hx hb hts in_c_loans_X4 tyX4 tyX4_ok nmX4 hown hK hP hD hS 0 rfl rfl 1 (by decide) (hts (.fieldLink RX4 46 "OwnedPlaces$Loans" "code" "LOwnedPlaces$Code;") (wm_c_loans 18 rfl)) (fun _ h9 => h9) rfl hin rfl (by decide +kernel) rfl rfl (Nat.le_of_ble_eq_true rfl) dX4_init_87 (fun H locs hP hD hS => ?_)
  have hP : va_P (dC, dI) vwCl [(h, .inr (4, [.ref a0, .ref a1, .null, .null, .ref q_1, .ref q_3, .ref q_5, .ref q_7, .ref q_9, .ref q_11, .int 0, .ref q_13, .ref q_15, .ref q_17, .long 0, .int 0, .int 0, .int 0]))] H := hP
  have hD : va_D A [(h, .inr (4, [.ref a0, .ref a1, .null, .null, .ref q_1, .ref q_3, .ref q_5, .ref q_7, .ref q_9, .ref q_11, .int 0, .ref q_13, .ref q_15, .ref q_17, .long 0, .int 0, .int 0, .int 0]))] := hD
  refine lv_aload_n hx hb dX4_init_90 rfl (lv_at hl 0 rfl) ?_
  refine lv_aload_n hx hb dX4_init_91 rfl (lv_at hl 3 rfl) ?_
  refine va_putF (D := (dC, dI)) (ci := 4) (v := .ref a2) (ty := (.object "OwnedPlaces$Declarations")) (C := RX4) (T := TX4) (N := 18) hx hb hts in_c_loans_X4 tyX4 tyX4_ok nmX4 hown hK hP hD hS 0 rfl rfl 2 (by decide) (hts (.fieldLink RX4 50 "OwnedPlaces$Loans" "declared" "LOwnedPlaces$Declarations;") (wm_c_loans 19 rfl)) (fun _ h9 => h9) rfl hin rfl (by decide +kernel) rfl rfl (Nat.le_of_ble_eq_true rfl) dX4_init_92 (fun H locs hP hD hS => ?_)
  have hP : va_P (dC, dI) vwCl [(h, .inr (4, [.ref a0, .ref a1, .ref a2, .null, .ref q_1, .ref q_3, .ref q_5, .ref q_7, .ref q_9, .ref q_11, .int 0, .ref q_13, .ref q_15, .ref q_17, .long 0, .int 0, .int 0, .int 0]))] H := hP
  have hD : va_D A [(h, .inr (4, [.ref a0, .ref a1, .ref a2, .null, .ref q_1, .ref q_3, .ref q_5, .ref q_7, .ref q_9, .ref q_11, .int 0, .ref q_13, .ref q_15, .ref q_17, .long 0, .int 0, .int 0, .int 0]))] := hD
  refine W.widen (k := 9) (n := 52900) (by omega) (by omega) ?_
  exact W.vret hx hb hr (fun tS ht hW => ⟨⟨(), rfl, trivial, trivial⟩, hS.F ht⟩) hS.2.2 dX4_init_95
def wf_c_machine : List Cond := [.code yX5_init cX5_init 7 none, .methodLink RX5 3 objectInit, .instanceMethod objectInit, .code objectInit ⟨#[0xb1]⟩ 1 none, .classLink RX5 9 RX2, .fieldLink RX5 11 "OwnedPlaces$Machine" "callers" "[LOwnedPlaces$Function;", .arrayClass .int, .fieldLink RX5 17 "OwnedPlaces$Machine" "callerNext" "[I", .fieldLink RX5 21 "OwnedPlaces$Machine" "callerBase" "[I", .fieldLink RX5 24 "OwnedPlaces$Machine" "filled" "[I", .fieldLink RX5 27 "OwnedPlaces$Machine" "code" "LOwnedPlaces$Code;", .fieldLink RX5 31 "OwnedPlaces$Machine" "types" "LOwnedPlaces$Types;", .fieldLink RX5 35 "OwnedPlaces$Machine" "declared" "LOwnedPlaces$Declarations;", .fieldLink RX5 39 "OwnedPlaces$Machine" "memory" "LOwnedPlaces$Memory;", .fieldLink RX5 43 "OwnedPlaces$Machine" "numbers" "LOwnedPlaces$Queue;", .fieldLink RX5 47 "OwnedPlaces$Machine" "waiting" "LOwnedPlaces$Queue;"]
def wp_c_machine : List Cond := wf_c_machine ++ (wsX50 ++ [])
theorem in_c_machine_X5 : ∀ w ∈ wsX50, w ∈ wp_c_machine := fun w h => List.mem_append_right _ (List.mem_append_left _ h)
theorem wg_c_machine : wf_c_machine.all goodWord = true := by decide +kernel
theorem wm_c_machine (k : Nat) {w : Cond} (h : wp_c_machine[k]? = some w) : w ∈ wp_c_machine := List.mem_of_getElem? h
set_option maxHeartbeats 4000000 in
set_option maxRecDepth 100000 in
theorem c_machine (l : Launch) (dC : Nat → ClassId) (dI : Nat → Nat → Nat) (h a0 a1 a2 a3 a4 a5 : Nat) (sz : Nat) : Met l yX5_init wp_c_machine ({ frames := 1, cells := 4, slots := 2580, locals := 12 }) (va_Pc [.ref h, .ref a0, .ref a1, .ref a2, .ref a3, .ref a4, .ref a5] (fun U => U.heap.size = sz ∧ va_P (dC, dI) vwCl [(h, .inr (5, [.null, .null, .null, .null, .null, .null, .int 0, .int 0, .int 0, .int 0, .int 0, .int 0, .int 0, .null, .null, .null, .null, .null, .int 0]))] U.heap ∧ va_K (dC, dI) vwCl [] U ∧ va_D (fun _ => True) [(h, .inr (5, [.null, .null, .null, .null, .null, .null, .int 0, .int 0, .int 0, .int 0, .int 0, .int 0, .int 0, .null, .null, .null, .null, .null, .int 0]))] ∧ va_AO RX2 U)) (va_Qv (fun _ : Unit => True) (fun (_ : Unit) (_ : State) => True) (va_A [(h, .inr (5, [.null, .null, .null, .null, .null, .null, .int 0, .int 0, .int 0, .int 0, .int 0, .int 0, .int 0, .null, .null, .null, .null, .null, .int 0]))] sz)) 4 2580 (va_A [(h, .inr (5, [.null, .null, .null, .null, .null, .null, .int 0, .int 0, .int 0, .int 0, .int 0, .int 0, .int 0, .null, .null, .null, .null, .null, .int 0]))] sz) := by
  refine Met.ofW (cc := cX5_init) (maxL := 7) (ret := none) (by decide) rfl ?_
  intro p e s m args below meth c s₁ B hml hv
  obtain ⟨rfl, hsz, hP, hK, hD0, hpre0⟩ := hv
  have hx := B.exec
  have hb := B.bytes
  have hr := B.returns
  have hts := atoms_spec (ws := wp_c_machine) B.pre
  have hown : s.vm.findClass RX5 = some m.cls := findClass_of_methodNamed B.named
  have hlocks := B.notSynchronized
  have hin : meth.name = "<init>" := (name_of_methodNamed B.named B.method).1
  subst hsz
  have hD := hD0.self (sz := s.heap.size)
  generalize hAe : va_A [(h, .inr (5, [.null, .null, .null, .null, .null, .null, .int 0, .int 0, .int 0, .int 0, .int 0, .int 0, .int 0, .null, .null, .null, .null, .null, .int 0]))] s.heap.size = A at hD ⊢
  have hA : ∀ q : Nat, s.heap.size ≤ q → A q := fun q h => by rw [← hAe]; exact Or.inr h
  have hS : va_S A s.heap s.heap [] := va_S.rf
  have hP : va_P (dC, dI) vwCl [(h, .inr (5, [.null, .null, .null, .null, .null, .null, .int 0, .int 0, .int 0, .int 0, .int 0, .int 0, .int 0, .null, .null, .null, .null, .null, .int 0]))] s.heap := hP
  have hl := lv_entry ([.ref h, .ref a0, .ref a1, .ref a2, .ref a3, .ref a4, .ref a5]) (n := 7) (Nat.le_of_ble_eq_true rfl)
  rw [lg_entry_eq]
  generalize (lg_sl ([.ref h, .ref a0, .ref a1, .ref a2, .ref a3, .ref a4, .ref a5]) ++ List.replicate (7 - (lg_sl ([.ref h, .ref a0, .ref a1, .ref a2, .ref a3, .ref a4, .ref a5])).length) Slot.unset).toArray = ls at hl ⊢
  have hl : lv_has ls 7 [(0, .ref h), (1, .ref a0), (2, .ref a1), (3, .ref a2), (4, .ref a3), (5, .ref a4), (6, .ref a5)] := hl
  refine lv_aload_n hx hb dX5_init_0 rfl (lv_at hl 0 rfl) ?_
  refine W.objInit hx hb hown (hts (.methodLink RX5 3 objectInit) (wm_c_machine 1 rfl)) (hts (.instanceMethod objectInit) (wm_c_machine 2 rfl)) (hts (.code objectInit ⟨#[0xb1]⟩ 1 none) (wm_c_machine 3 rfl)) rfl (by rw [hml]; exact hl.1) rfl dX5_init_1 (Nat.le_of_ble_eq_true rfl) (Nat.le_of_ble_eq_true rfl) ?_
  refine W.eq (g2 := F0 m 4 ls []) rfl ?_
  refine lv_aload_n hx hb dX5_init_4 rfl (lv_at hl 0 rfl) ?_
  refine lv_bipush (v := 60) hx hb dX5_init_5 (by decide) ?_
  refine va_newq (C := RX2) hx hb hown (hts (.classLink RX5 9 RX2) (wm_c_machine 4 rfl)) hpre0 hK hP hD hS hA (by decide) (by decide +kernel) (show 60 * 4 ≤ 536870912 by omega) (show 0 + 1 ≤ 4 by omega) (show 0 + 60 ≤ 2580 by omega) dX5_init_7 (fun q_1 k_2 H _ hP hD hS => ?_)
  have hP := hP.sub (ws' := [(h, .inr (5, [.null, .null, .null, .null, .null, .null, .int 0, .int 0, .int 0, .int 0, .int 0, .int 0, .int 0, .null, .null, .null, .null, .null, .int 0]))]) [0] rfl
  have hD := hD.sub (ws' := [(h, .inr (5, [.null, .null, .null, .null, .null, .null, .int 0, .int 0, .int 0, .int 0, .int 0, .int 0, .int 0, .null, .null, .null, .null, .null, .int 0]))]) [0] (by decide) rfl
  refine W.widen (k := 1) (n := 60) (by omega) (by omega) ?_
  refine va_putF (D := (dC, dI)) (ci := 5) (v := .ref q_1) (ty := (.array (.object "OwnedPlaces$Function"))) (C := RX5) (T := TX5) (N := 19) hx hb hts in_c_machine_X5 tyX5 tyX5_ok nmX5 hown hK hP hD hS 0 rfl rfl 14 (by decide) (hts (.fieldLink RX5 11 "OwnedPlaces$Machine" "callers" "[LOwnedPlaces$Function;") (wm_c_machine 5 rfl)) (fun _ h9 => h9) rfl hin rfl (by decide +kernel) rfl rfl (Nat.le_of_ble_eq_true rfl) dX5_init_10 (fun H locs hP hD hS => ?_)
  have hP : va_P (dC, dI) vwCl [(h, .inr (5, [.null, .null, .null, .null, .null, .null, .int 0, .int 0, .int 0, .int 0, .int 0, .int 0, .int 0, .null, .ref q_1, .null, .null, .null, .int 0]))] H := hP
  have hD : va_D A [(h, .inr (5, [.null, .null, .null, .null, .null, .null, .int 0, .int 0, .int 0, .int 0, .int 0, .int 0, .int 0, .null, .ref q_1, .null, .null, .null, .int 0]))] := hD
  refine lv_aload_n hx hb dX5_init_13 rfl (lv_at hl 0 rfl) ?_
  refine lv_bipush (v := 60) hx hb dX5_init_14 (by decide) ?_
  refine va_newa (atype := .int) (a0 := (60, .inl (fun _ => 0))) (ty := .int) hx hb (hts (.arrayClass .int) (wm_c_machine 6 rfl)) rfl hK hP hD hS hA (fun _ => rfl) (by decide) (by decide +kernel) (show 60 * 4 ≤ 536870912 by omega) (show 1 + 1 ≤ 4 by omega) (show 60 + 60 ≤ 2580 by omega) dX5_init_16 (fun q_3 k_4 H _ hP hD hS => ?_)
  have hP := hP.sub (ws' := [(h, .inr (5, [.null, .null, .null, .null, .null, .null, .int 0, .int 0, .int 0, .int 0, .int 0, .int 0, .int 0, .null, .ref q_1, .null, .null, .null, .int 0]))]) [0] rfl
  have hD := hD.sub (ws' := [(h, .inr (5, [.null, .null, .null, .null, .null, .null, .int 0, .int 0, .int 0, .int 0, .int 0, .int 0, .int 0, .null, .ref q_1, .null, .null, .null, .int 0]))]) [0] (by decide) rfl
  refine W.widen (k := 2) (n := 120) (by omega) (by omega) ?_
  refine va_putF (D := (dC, dI)) (ci := 5) (v := .ref q_3) (ty := (.array .int)) (C := RX5) (T := TX5) (N := 19) hx hb hts in_c_machine_X5 tyX5 tyX5_ok nmX5 hown hK hP hD hS 0 rfl rfl 15 (by decide) (hts (.fieldLink RX5 17 "OwnedPlaces$Machine" "callerNext" "[I") (wm_c_machine 7 rfl)) (fun _ h9 => h9) rfl hin rfl (by decide +kernel) rfl rfl (Nat.le_of_ble_eq_true rfl) dX5_init_18 (fun H locs hP hD hS => ?_)
  have hP : va_P (dC, dI) vwCl [(h, .inr (5, [.null, .null, .null, .null, .null, .null, .int 0, .int 0, .int 0, .int 0, .int 0, .int 0, .int 0, .null, .ref q_1, .ref q_3, .null, .null, .int 0]))] H := hP
  have hD : va_D A [(h, .inr (5, [.null, .null, .null, .null, .null, .null, .int 0, .int 0, .int 0, .int 0, .int 0, .int 0, .int 0, .null, .ref q_1, .ref q_3, .null, .null, .int 0]))] := hD
  refine lv_aload_n hx hb dX5_init_21 rfl (lv_at hl 0 rfl) ?_
  refine lv_bipush (v := 60) hx hb dX5_init_22 (by decide) ?_
  refine va_newa (atype := .int) (a0 := (60, .inl (fun _ => 0))) (ty := .int) hx hb (hts (.arrayClass .int) (wm_c_machine 6 rfl)) rfl hK hP hD hS hA (fun _ => rfl) (by decide) (by decide +kernel) (show 60 * 4 ≤ 536870912 by omega) (show 2 + 1 ≤ 4 by omega) (show 120 + 60 ≤ 2580 by omega) dX5_init_24 (fun q_5 k_6 H _ hP hD hS => ?_)
  have hP := hP.sub (ws' := [(h, .inr (5, [.null, .null, .null, .null, .null, .null, .int 0, .int 0, .int 0, .int 0, .int 0, .int 0, .int 0, .null, .ref q_1, .ref q_3, .null, .null, .int 0]))]) [0] rfl
  have hD := hD.sub (ws' := [(h, .inr (5, [.null, .null, .null, .null, .null, .null, .int 0, .int 0, .int 0, .int 0, .int 0, .int 0, .int 0, .null, .ref q_1, .ref q_3, .null, .null, .int 0]))]) [0] (by decide) rfl
  refine W.widen (k := 3) (n := 180) (by omega) (by omega) ?_
  refine va_putF (D := (dC, dI)) (ci := 5) (v := .ref q_5) (ty := (.array .int)) (C := RX5) (T := TX5) (N := 19) hx hb hts in_c_machine_X5 tyX5 tyX5_ok nmX5 hown hK hP hD hS 0 rfl rfl 16 (by decide) (hts (.fieldLink RX5 21 "OwnedPlaces$Machine" "callerBase" "[I") (wm_c_machine 8 rfl)) (fun _ h9 => h9) rfl hin rfl (by decide +kernel) rfl rfl (Nat.le_of_ble_eq_true rfl) dX5_init_26 (fun H locs hP hD hS => ?_)
  have hP : va_P (dC, dI) vwCl [(h, .inr (5, [.null, .null, .null, .null, .null, .null, .int 0, .int 0, .int 0, .int 0, .int 0, .int 0, .int 0, .null, .ref q_1, .ref q_3, .ref q_5, .null, .int 0]))] H := hP
  have hD : va_D A [(h, .inr (5, [.null, .null, .null, .null, .null, .null, .int 0, .int 0, .int 0, .int 0, .int 0, .int 0, .int 0, .null, .ref q_1, .ref q_3, .ref q_5, .null, .int 0]))] := hD
  refine lv_aload_n hx hb dX5_init_29 rfl (lv_at hl 0 rfl) ?_
  refine lv_sipush (v := 2400) hx hb dX5_init_30 (by decide) ?_
  refine va_newa (atype := .int) (a0 := (2400, .inl (fun _ => 0))) (ty := .int) hx hb (hts (.arrayClass .int) (wm_c_machine 6 rfl)) rfl hK hP hD hS hA (fun _ => rfl) (by decide) (by decide +kernel) (show 2400 * 4 ≤ 536870912 by omega) (show 3 + 1 ≤ 4 by omega) (show 180 + 2400 ≤ 2580 by omega) dX5_init_33 (fun q_7 k_8 H _ hP hD hS => ?_)
  have hP := hP.sub (ws' := [(h, .inr (5, [.null, .null, .null, .null, .null, .null, .int 0, .int 0, .int 0, .int 0, .int 0, .int 0, .int 0, .null, .ref q_1, .ref q_3, .ref q_5, .null, .int 0]))]) [0] rfl
  have hD := hD.sub (ws' := [(h, .inr (5, [.null, .null, .null, .null, .null, .null, .int 0, .int 0, .int 0, .int 0, .int 0, .int 0, .int 0, .null, .ref q_1, .ref q_3, .ref q_5, .null, .int 0]))]) [0] (by decide) rfl
  refine W.widen (k := 4) (n := 2580) (by omega) (by omega) ?_
  refine va_putF (D := (dC, dI)) (ci := 5) (v := .ref q_7) (ty := (.array .int)) (C := RX5) (T := TX5) (N := 19) hx hb hts in_c_machine_X5 tyX5 tyX5_ok nmX5 hown hK hP hD hS 0 rfl rfl 17 (by decide) (hts (.fieldLink RX5 24 "OwnedPlaces$Machine" "filled" "[I") (wm_c_machine 9 rfl)) (fun _ h9 => h9) rfl hin rfl (by decide +kernel) rfl rfl (Nat.le_of_ble_eq_true rfl) dX5_init_35 (fun H locs hP hD hS => ?_)
  have hP : va_P (dC, dI) vwCl [(h, .inr (5, [.null, .null, .null, .null, .null, .null, .int 0, .int 0, .int 0, .int 0, .int 0, .int 0, .int 0, .null, .ref q_1, .ref q_3, .ref q_5, .ref q_7, .int 0]))] H := hP
  have hD : va_D A [(h, .inr (5, [.null, .null, .null, .null, .null, .null, .int 0, .int 0, .int 0, .int 0, .int 0, .int 0, .int 0, .null, .ref q_1, .ref q_3, .ref q_5, .ref q_7, .int 0]))] := hD
  refine lv_aload_n hx hb dX5_init_38 rfl (lv_at hl 0 rfl) ?_
  refine lv_aload_n hx hb dX5_init_39 rfl (lv_at hl 1 rfl) ?_
  refine va_putF (D := (dC, dI)) (ci := 5) (v := .ref a0) (ty := (.object "OwnedPlaces$Code")) (C := RX5) (T := TX5) (N := 19) hx hb hts in_c_machine_X5 tyX5 tyX5_ok nmX5 hown hK hP hD hS 0 rfl rfl 0 (by decide) (hts (.fieldLink RX5 27 "OwnedPlaces$Machine" "code" "LOwnedPlaces$Code;") (wm_c_machine 10 rfl)) (fun _ h9 => h9) rfl hin rfl (by decide +kernel) rfl rfl (Nat.le_of_ble_eq_true rfl) dX5_init_40 (fun H locs hP hD hS => ?_)
  have hP : va_P (dC, dI) vwCl [(h, .inr (5, [.ref a0, .null, .null, .null, .null, .null, .int 0, .int 0, .int 0, .int 0, .int 0, .int 0, .int 0, .null, .ref q_1, .ref q_3, .ref q_5, .ref q_7, .int 0]))] H := hP
  have hD : va_D A [(h, .inr (5, [.ref a0, .null, .null, .null, .null, .null, .int 0, .int 0, .int 0, .int 0, .int 0, .int 0, .int 0, .null, .ref q_1, .ref q_3, .ref q_5, .ref q_7, .int 0]))] := hD
  refine lv_aload_n hx hb dX5_init_43 rfl (lv_at hl 0 rfl) ?_
  refine lv_aload_n hx hb dX5_init_44 rfl (lv_at hl 2 rfl) ?_
  refine va_putF (D := (dC, dI)) (ci := 5) (v := .ref a1) (ty := (.object "OwnedPlaces$Types")) (C := RX5) (T := TX5) (N := 19) hx hb hts in_c_machine_X5 tyX5 tyX5_ok nmX5 hown hK hP hD hS 0 rfl rfl 1 (by decide) (hts (.fieldLink RX5 31 "OwnedPlaces$Machine" "types" "LOwnedPlaces$Types;") (wm_c_machine 11 rfl)) (fun _ h9 => h9) rfl hin rfl (by decide +kernel) rfl rfl (Nat.le_of_ble_eq_true rfl) dX5_init_45 (fun H locs hP hD hS => ?_)
  have hP : va_P (dC, dI) vwCl [(h, .inr (5, [.ref a0, .ref a1, .null, .null, .null, .null, .int 0, .int 0, .int 0, .int 0, .int 0, .int 0, .int 0, .null, .ref q_1, .ref q_3, .ref q_5, .ref q_7, .int 0]))] H := hP
  have hD : va_D A [(h, .inr (5, [.ref a0, .ref a1, .null, .null, .null, .null, .int 0, .int 0, .int 0, .int 0, .int 0, .int 0, .int 0, .null, .ref q_1, .ref q_3, .ref q_5, .ref q_7, .int 0]))] := hD
  refine lv_aload_n hx hb dX5_init_48 rfl (lv_at hl 0 rfl) ?_
  refine lv_aload_n hx hb dX5_init_49 rfl (lv_at hl 3 rfl) ?_
  refine va_putF (D := (dC, dI)) (ci := 5) (v := .ref a2) (ty := (.object "OwnedPlaces$Declarations")) (C := RX5) (T := TX5) (N := 19) hx hb hts in_c_machine_X5 tyX5 tyX5_ok nmX5 hown hK hP hD hS 0 rfl rfl 2 (by decide) (hts (.fieldLink RX5 35 "OwnedPlaces$Machine" "declared" "LOwnedPlaces$Declarations;") (wm_c_machine 12 rfl)) (fun _ h9 => h9) rfl hin rfl (by decide +kernel) rfl rfl (Nat.le_of_ble_eq_true rfl) dX5_init_50 (fun H locs hP hD hS => ?_)
  have hP : va_P (dC, dI) vwCl [(h, .inr (5, [.ref a0, .ref a1, .ref a2, .null, .null, .null, .int 0, .int 0, .int 0, .int 0, .int 0, .int 0, .int 0, .null, .ref q_1, .ref q_3, .ref q_5, .ref q_7, .int 0]))] H := hP
  have hD : va_D A [(h, .inr (5, [.ref a0, .ref a1, .ref a2, .null, .null, .null, .int 0, .int 0, .int 0, .int 0, .int 0, .int 0, .int 0, .null, .ref q_1, .ref q_3, .ref q_5, .ref q_7, .int 0]))] := hD
  refine lv_aload_n hx hb dX5_init_53 rfl (lv_at hl 0 rfl) ?_
  refine lv_aload hx hb dX5_init_54 (lv_at hl 4 rfl) ?_
  refine va_putF (D := (dC, dI)) (ci := 5) (v := .ref a3) (ty := (.object "OwnedPlaces$Memory")) (C := RX5) (T := TX5) (N := 19) hx hb hts in_c_machine_X5 tyX5 tyX5_ok nmX5 hown hK hP hD hS 0 rfl rfl 3 (by decide) (hts (.fieldLink RX5 39 "OwnedPlaces$Machine" "memory" "LOwnedPlaces$Memory;") (wm_c_machine 13 rfl)) (fun _ h9 => h9) rfl hin rfl (by decide +kernel) rfl rfl (Nat.le_of_ble_eq_true rfl) dX5_init_56 (fun H locs hP hD hS => ?_)
  have hP : va_P (dC, dI) vwCl [(h, .inr (5, [.ref a0, .ref a1, .ref a2, .ref a3, .null, .null, .int 0, .int 0, .int 0, .int 0, .int 0, .int 0, .int 0, .null, .ref q_1, .ref q_3, .ref q_5, .ref q_7, .int 0]))] H := hP
  have hD : va_D A [(h, .inr (5, [.ref a0, .ref a1, .ref a2, .ref a3, .null, .null, .int 0, .int 0, .int 0, .int 0, .int 0, .int 0, .int 0, .null, .ref q_1, .ref q_3, .ref q_5, .ref q_7, .int 0]))] := hD
  refine lv_aload_n hx hb dX5_init_59 rfl (lv_at hl 0 rfl) ?_
  refine lv_aload hx hb dX5_init_60 (lv_at hl 5 rfl) ?_
  refine va_putF (D := (dC, dI)) (ci := 5) (v := .ref a4) (ty := (.object "OwnedPlaces$Queue")) (C := RX5) (T := TX5) (N := 19) hx hb hts in_c_machine_X5 tyX5 tyX5_ok nmX5 hown hK hP hD hS 0 rfl rfl 4 (by decide) (hts (.fieldLink RX5 43 "OwnedPlaces$Machine" "numbers" "LOwnedPlaces$Queue;") (wm_c_machine 14 rfl)) (fun _ h9 => h9) rfl hin rfl (by decide +kernel) rfl rfl (Nat.le_of_ble_eq_true rfl) dX5_init_62 (fun H locs hP hD hS => ?_)
  have hP : va_P (dC, dI) vwCl [(h, .inr (5, [.ref a0, .ref a1, .ref a2, .ref a3, .ref a4, .null, .int 0, .int 0, .int 0, .int 0, .int 0, .int 0, .int 0, .null, .ref q_1, .ref q_3, .ref q_5, .ref q_7, .int 0]))] H := hP
  have hD : va_D A [(h, .inr (5, [.ref a0, .ref a1, .ref a2, .ref a3, .ref a4, .null, .int 0, .int 0, .int 0, .int 0, .int 0, .int 0, .int 0, .null, .ref q_1, .ref q_3, .ref q_5, .ref q_7, .int 0]))] := hD
  refine lv_aload_n hx hb dX5_init_65 rfl (lv_at hl 0 rfl) ?_
  refine lv_aload hx hb dX5_init_66 (lv_at hl 6 rfl) ?_
  refine va_putF (D := (dC, dI)) (ci := 5) (v := .ref a5) (ty := (.object "OwnedPlaces$Queue")) (C := RX5) (T := TX5) (N := 19) hx hb hts in_c_machine_X5 tyX5 tyX5_ok nmX5 hown hK hP hD hS 0 rfl rfl 5 (by decide) (hts (.fieldLink RX5 47 "OwnedPlaces$Machine" "waiting" "LOwnedPlaces$Queue;") (wm_c_machine 15 rfl)) (fun _ h9 => h9) rfl hin rfl (by decide +kernel) rfl rfl (Nat.le_of_ble_eq_true rfl) dX5_init_68 (fun H locs hP hD hS => ?_)
  have hP : va_P (dC, dI) vwCl [(h, .inr (5, [.ref a0, .ref a1, .ref a2, .ref a3, .ref a4, .ref a5, .int 0, .int 0, .int 0, .int 0, .int 0, .int 0, .int 0, .null, .ref q_1, .ref q_3, .ref q_5, .ref q_7, .int 0]))] H := hP
  have hD : va_D A [(h, .inr (5, [.ref a0, .ref a1, .ref a2, .ref a3, .ref a4, .ref a5, .int 0, .int 0, .int 0, .int 0, .int 0, .int 0, .int 0, .null, .ref q_1, .ref q_3, .ref q_5, .ref q_7, .int 0]))] := hD
  refine W.widen (k := 4) (n := 2580) (by omega) (by omega) ?_
  exact W.vret hx hb hr (fun tS ht hW => ⟨⟨(), rfl, trivial, trivial⟩, hS.F ht⟩) hS.2.2 dX5_init_71
def wf_c_q60 : List Cond := [.code yX8_init cX8_init 2 none, .methodLink RX8 1 objectInit, .instanceMethod objectInit, .code objectInit ⟨#[0xb1]⟩ 1 none, .arrayClass .byte, .fieldLink RX8 7 "OwnedPlaces$Queue" "digits" "[B", .arrayClass .long, .fieldLink RX8 13 "OwnedPlaces$Queue" "row" "[J"]
def wp_c_q60 : List Cond := wf_c_q60 ++ (wsX80 ++ [])
theorem in_c_q60_X8 : ∀ w ∈ wsX80, w ∈ wp_c_q60 := fun w h => List.mem_append_right _ (List.mem_append_left _ h)
theorem wg_c_q60 : wf_c_q60.all goodWord = true := by decide +kernel
theorem wm_c_q60 (k : Nat) {w : Cond} (h : wp_c_q60[k]? = some w) : w ∈ wp_c_q60 := List.mem_of_getElem? h
set_option maxHeartbeats 4000000 in
set_option maxRecDepth 100000 in
theorem c_q60 (l : Launch) (dC : Nat → ClassId) (dI : Nat → Nat → Nat) (h : Nat) (sz : Nat) : Met l yX8_init wp_c_q60 ({ frames := 1, cells := 2, slots := 80, locals := 12 }) (va_Pc [.ref h, .int 60] (fun U => U.heap.size = sz ∧ va_P (dC, dI) vwCl [(h, .inr (8, [.null, .null, .int 0, .int 0]))] U.heap ∧ va_K (dC, dI) vwCl [] U ∧ va_D (fun _ => True) [(h, .inr (8, [.null, .null, .int 0, .int 0]))])) (va_Qv (fun _ : Unit => True) (fun (_ : Unit) (t : State) => ∃ (qr : Nat) (qd : Nat) (kL : ClassId), va_P (dC, dI) vwCl [(h, .inr (8, [.ref qr, .ref qd, .int 0, .int 0])), (qr, .inl (kL, 60, .inr (.inl (fun _ => 0))))] t.heap ∧ va_K (dC, dI) vwCl [(kL, .long)] t ∧ va_D (va_A [(h, .inr (8, [.null, .null, .int 0, .int 0]))] sz) [(h, .inr (8, [.ref qr, .ref qd, .int 0, .int 0])), (qr, .inl (kL, 60, .inr (.inl (fun _ => 0))))]) (va_A [(h, .inr (8, [.null, .null, .int 0, .int 0]))] sz)) 2 80 (va_A [(h, .inr (8, [.null, .null, .int 0, .int 0]))] sz) := by
  refine Met.ofW (cc := cX8_init) (maxL := 2) (ret := none) (by decide) rfl ?_
  intro p e s m args below meth c s₁ B hml hv
  obtain ⟨rfl, hsz, hP, hK, hD0⟩ := hv
  have hx := B.exec
  have hb := B.bytes
  have hr := B.returns
  have hts := atoms_spec (ws := wp_c_q60) B.pre
  have hown : s.vm.findClass RX8 = some m.cls := findClass_of_methodNamed B.named
  have hlocks := B.notSynchronized
  have hin : meth.name = "<init>" := (name_of_methodNamed B.named B.method).1
  subst hsz
  have hD := hD0.self (sz := s.heap.size)
  generalize hAe : va_A [(h, .inr (8, [.null, .null, .int 0, .int 0]))] s.heap.size = A at hD ⊢
  have hA : ∀ q : Nat, s.heap.size ≤ q → A q := fun q h => by rw [← hAe]; exact Or.inr h
  have hS : va_S A s.heap s.heap [] := va_S.rf
  have hP : va_P (dC, dI) vwCl [(h, .inr (8, [.null, .null, .int 0, .int 0]))] s.heap := hP
  have hl := lv_entry ([.ref h, .int 60]) (n := 2) (Nat.le_of_ble_eq_true rfl)
  rw [lg_entry_eq]
  generalize (lg_sl ([.ref h, .int 60]) ++ List.replicate (2 - (lg_sl ([.ref h, .int 60])).length) Slot.unset).toArray = ls at hl ⊢
  have hl : lv_has ls 2 [(0, .ref h), (1, .int 60)] := hl
  refine lv_aload_n hx hb dX8_init_0 rfl (lv_at hl 0 rfl) ?_
  refine W.objInit hx hb hown (hts (.methodLink RX8 1 objectInit) (wm_c_q60 1 rfl)) (hts (.instanceMethod objectInit) (wm_c_q60 2 rfl)) (hts (.code objectInit ⟨#[0xb1]⟩ 1 none) (wm_c_q60 3 rfl)) rfl (by rw [hml]; exact hl.1) rfl dX8_init_1 (Nat.le_of_ble_eq_true rfl) (Nat.le_of_ble_eq_true rfl) ?_
  refine W.eq (g2 := F0 m 4 ls []) rfl ?_
  refine lv_aload_n hx hb dX8_init_4 rfl (lv_at hl 0 rfl) ?_
  refine lv_bipush (v := 20) hx hb dX8_init_5 (by decide) ?_
  refine va_newa (atype := .byte) (a0 := (20, .inl (fun _ => 0))) (ty := .byte) hx hb (hts (.arrayClass .byte) (wm_c_q60 4 rfl)) rfl hK hP hD hS hA (fun _ => rfl) (by decide) (by decide +kernel) (show 20 * 1 ≤ 536870912 by omega) (show 0 + 1 ≤ 2 by omega) (show 0 + 20 ≤ 80 by omega) dX8_init_7 (fun q_1 k_2 H hK hP hD hS => ?_)
  have hP : va_P (dC, dI) vwCl [(h, .inr (8, [.null, .null, .int 0, .int 0])), (q_1, .inl (k_2, 20, .inl (fun _ => 0)))] H := hP
  have hD : va_D A [(h, .inr (8, [.null, .null, .int 0, .int 0])), (q_1, .inl (k_2, 20, .inl (fun _ => 0)))] := hD
  have hK : va_K (dC, dI) vwCl [(k_2, .byte)] s := hK
  refine W.widen (k := 1) (n := 20) (by omega) (by omega) ?_
  refine va_putF (D := (dC, dI)) (ci := 8) (v := .ref q_1) (ty := (.array .byte)) (C := RX8) (T := TX8) (N := 4) hx hb hts in_c_q60_X8 tyX8 tyX8_ok nmX8 hown hK hP hD hS 0 rfl rfl 1 (by decide) (hts (.fieldLink RX8 7 "OwnedPlaces$Queue" "digits" "[B") (wm_c_q60 5 rfl)) (fun _ h9 => h9) rfl hin rfl (by decide +kernel) rfl rfl (Nat.le_of_ble_eq_true rfl) dX8_init_9 (fun H locs hP hD hS => ?_)
  have hP : va_P (dC, dI) vwCl [(h, .inr (8, [.null, .ref q_1, .int 0, .int 0])), (q_1, .inl (k_2, 20, .inl (fun _ => 0)))] H := hP
  have hD : va_D A [(h, .inr (8, [.null, .ref q_1, .int 0, .int 0])), (q_1, .inl (k_2, 20, .inl (fun _ => 0)))] := hD
  refine lv_aload_n hx hb dX8_init_12 rfl (lv_at hl 0 rfl) ?_
  refine lv_iload_n hx hb dX8_init_13 rfl (lv_at hl 1 rfl) ?_
  refine va_newa (atype := .long) (a0 := (60, .inr (.inl (fun _ => 0)))) (ty := .long) hx hb (hts (.arrayClass .long) (wm_c_q60 6 rfl)) rfl hK hP hD hS hA (fun _ => rfl) (by decide) (by decide +kernel) (show 60 * 8 ≤ 536870912 by omega) (show 1 + 1 ≤ 2 by omega) (show 20 + 60 ≤ 80 by omega) dX8_init_14 (fun q_3 k_4 H hK hP hD hS => ?_)
  have hP : va_P (dC, dI) vwCl [(h, .inr (8, [.null, .ref q_1, .int 0, .int 0])), (q_1, .inl (k_2, 20, .inl (fun _ => 0))), (q_3, .inl (k_4, 60, .inr (.inl (fun _ => 0))))] H := hP
  have hD : va_D A [(h, .inr (8, [.null, .ref q_1, .int 0, .int 0])), (q_1, .inl (k_2, 20, .inl (fun _ => 0))), (q_3, .inl (k_4, 60, .inr (.inl (fun _ => 0))))] := hD
  have hK : va_K (dC, dI) vwCl [(k_2, .byte), (k_4, .long)] s := hK
  refine W.widen (k := 2) (n := 80) (by omega) (by omega) ?_
  refine va_putF (D := (dC, dI)) (ci := 8) (v := .ref q_3) (ty := (.array .long)) (C := RX8) (T := TX8) (N := 4) hx hb hts in_c_q60_X8 tyX8 tyX8_ok nmX8 hown hK hP hD hS 0 rfl rfl 0 (by decide) (hts (.fieldLink RX8 13 "OwnedPlaces$Queue" "row" "[J") (wm_c_q60 7 rfl)) (fun _ h9 => h9) rfl hin rfl (by decide +kernel) rfl rfl (Nat.le_of_ble_eq_true rfl) dX8_init_16 (fun H locs hP hD hS => ?_)
  have hP : va_P (dC, dI) vwCl [(h, .inr (8, [.ref q_3, .ref q_1, .int 0, .int 0])), (q_1, .inl (k_2, 20, .inl (fun _ => 0))), (q_3, .inl (k_4, 60, .inr (.inl (fun _ => 0))))] H := hP
  have hD : va_D A [(h, .inr (8, [.ref q_3, .ref q_1, .int 0, .int 0])), (q_1, .inl (k_2, 20, .inl (fun _ => 0))), (q_3, .inl (k_4, 60, .inr (.inl (fun _ => 0))))] := hD
  have hP9 := hP.sub (ws' := [(h, .inr (8, [.ref q_3, .ref q_1, .int 0, .int 0])), (q_3, .inl (k_4, 60, .inr (.inl (fun _ => 0))))]) [0, 2] rfl
  have hD9 := hD.sub (ws' := [(h, .inr (8, [.ref q_3, .ref q_1, .int 0, .int 0])), (q_3, .inl (k_4, 60, .inr (.inl (fun _ => 0))))]) [0, 2] (by decide) rfl
  have hK9 := hK.sub (tys' := [(k_4, .long)]) [1] rfl
  refine W.widen (k := 2) (n := 80) (by omega) (by omega) ?_
  exact W.vret hx hb hr (fun tS ht hW => ⟨⟨(), rfl, trivial, q_3, q_1, k_4, by rw [ht]; exact hP9, va_K.moved hW.alike hK9, hD9⟩, hS.F ht⟩) hS.2.2 dX8_init_19
def wf_c_q4000 : List Cond := [.code yX8_init cX8_init 2 none, .methodLink RX8 1 objectInit, .instanceMethod objectInit, .code objectInit ⟨#[0xb1]⟩ 1 none, .arrayClass .byte, .fieldLink RX8 7 "OwnedPlaces$Queue" "digits" "[B", .arrayClass .long, .fieldLink RX8 13 "OwnedPlaces$Queue" "row" "[J"]
def wp_c_q4000 : List Cond := wf_c_q4000 ++ (wsX80 ++ [])
theorem in_c_q4000_X8 : ∀ w ∈ wsX80, w ∈ wp_c_q4000 := fun w h => List.mem_append_right _ (List.mem_append_left _ h)
theorem wg_c_q4000 : wf_c_q4000.all goodWord = true := by decide +kernel
theorem wm_c_q4000 (k : Nat) {w : Cond} (h : wp_c_q4000[k]? = some w) : w ∈ wp_c_q4000 := List.mem_of_getElem? h
set_option maxHeartbeats 4000000 in
set_option maxRecDepth 100000 in
theorem c_q4000 (l : Launch) (dC : Nat → ClassId) (dI : Nat → Nat → Nat) (h : Nat) (sz : Nat) : Met l yX8_init wp_c_q4000 ({ frames := 1, cells := 2, slots := 4020, locals := 12 }) (va_Pc [.ref h, .int 4000] (fun U => U.heap.size = sz ∧ va_P (dC, dI) vwCl [(h, .inr (8, [.null, .null, .int 0, .int 0]))] U.heap ∧ va_K (dC, dI) vwCl [] U ∧ va_D (fun _ => True) [(h, .inr (8, [.null, .null, .int 0, .int 0]))])) (va_Qv (fun _ : Unit => True) (fun (_ : Unit) (t : State) => ∃ (qr : Nat) (qd : Nat), va_P (dC, dI) vwCl [(h, .inr (8, [.ref qr, .ref qd, .int 0, .int 0]))] t.heap ∧ va_K (dC, dI) vwCl [] t ∧ va_D (va_A [(h, .inr (8, [.null, .null, .int 0, .int 0]))] sz) [(h, .inr (8, [.ref qr, .ref qd, .int 0, .int 0]))]) (va_A [(h, .inr (8, [.null, .null, .int 0, .int 0]))] sz)) 2 4020 (va_A [(h, .inr (8, [.null, .null, .int 0, .int 0]))] sz) := by
  refine Met.ofW (cc := cX8_init) (maxL := 2) (ret := none) (by decide) rfl ?_
  intro p e s m args below meth c s₁ B hml hv
  obtain ⟨rfl, hsz, hP, hK, hD0⟩ := hv
  have hx := B.exec
  have hb := B.bytes
  have hr := B.returns
  have hts := atoms_spec (ws := wp_c_q4000) B.pre
  have hown : s.vm.findClass RX8 = some m.cls := findClass_of_methodNamed B.named
  have hlocks := B.notSynchronized
  have hin : meth.name = "<init>" := (name_of_methodNamed B.named B.method).1
  subst hsz
  have hD := hD0.self (sz := s.heap.size)
  generalize hAe : va_A [(h, .inr (8, [.null, .null, .int 0, .int 0]))] s.heap.size = A at hD ⊢
  have hA : ∀ q : Nat, s.heap.size ≤ q → A q := fun q h => by rw [← hAe]; exact Or.inr h
  have hS : va_S A s.heap s.heap [] := va_S.rf
  have hP : va_P (dC, dI) vwCl [(h, .inr (8, [.null, .null, .int 0, .int 0]))] s.heap := hP
  have hl := lv_entry ([.ref h, .int 4000]) (n := 2) (Nat.le_of_ble_eq_true rfl)
  rw [lg_entry_eq]
  generalize (lg_sl ([.ref h, .int 4000]) ++ List.replicate (2 - (lg_sl ([.ref h, .int 4000])).length) Slot.unset).toArray = ls at hl ⊢
  have hl : lv_has ls 2 [(0, .ref h), (1, .int 4000)] := hl
  refine lv_aload_n hx hb dX8_init_0 rfl (lv_at hl 0 rfl) ?_
  refine W.objInit hx hb hown (hts (.methodLink RX8 1 objectInit) (wm_c_q4000 1 rfl)) (hts (.instanceMethod objectInit) (wm_c_q4000 2 rfl)) (hts (.code objectInit ⟨#[0xb1]⟩ 1 none) (wm_c_q4000 3 rfl)) rfl (by rw [hml]; exact hl.1) rfl dX8_init_1 (Nat.le_of_ble_eq_true rfl) (Nat.le_of_ble_eq_true rfl) ?_
  refine W.eq (g2 := F0 m 4 ls []) rfl ?_
  refine lv_aload_n hx hb dX8_init_4 rfl (lv_at hl 0 rfl) ?_
  refine lv_bipush (v := 20) hx hb dX8_init_5 (by decide) ?_
  refine va_newa (atype := .byte) (a0 := (20, .inl (fun _ => 0))) (ty := .byte) hx hb (hts (.arrayClass .byte) (wm_c_q4000 4 rfl)) rfl hK hP hD hS hA (fun _ => rfl) (by decide) (by decide +kernel) (show 20 * 1 ≤ 536870912 by omega) (show 0 + 1 ≤ 2 by omega) (show 0 + 20 ≤ 4020 by omega) dX8_init_7 (fun q_1 k_2 H hK hP hD hS => ?_)
  have hP : va_P (dC, dI) vwCl [(h, .inr (8, [.null, .null, .int 0, .int 0])), (q_1, .inl (k_2, 20, .inl (fun _ => 0)))] H := hP
  have hD : va_D A [(h, .inr (8, [.null, .null, .int 0, .int 0])), (q_1, .inl (k_2, 20, .inl (fun _ => 0)))] := hD
  have hK : va_K (dC, dI) vwCl [(k_2, .byte)] s := hK
  refine W.widen (k := 1) (n := 20) (by omega) (by omega) ?_
  refine va_putF (D := (dC, dI)) (ci := 8) (v := .ref q_1) (ty := (.array .byte)) (C := RX8) (T := TX8) (N := 4) hx hb hts in_c_q4000_X8 tyX8 tyX8_ok nmX8 hown hK hP hD hS 0 rfl rfl 1 (by decide) (hts (.fieldLink RX8 7 "OwnedPlaces$Queue" "digits" "[B") (wm_c_q4000 5 rfl)) (fun _ h9 => h9) rfl hin rfl (by decide +kernel) rfl rfl (Nat.le_of_ble_eq_true rfl) dX8_init_9 (fun H locs hP hD hS => ?_)
  have hP : va_P (dC, dI) vwCl [(h, .inr (8, [.null, .ref q_1, .int 0, .int 0])), (q_1, .inl (k_2, 20, .inl (fun _ => 0)))] H := hP
  have hD : va_D A [(h, .inr (8, [.null, .ref q_1, .int 0, .int 0])), (q_1, .inl (k_2, 20, .inl (fun _ => 0)))] := hD
  refine lv_aload_n hx hb dX8_init_12 rfl (lv_at hl 0 rfl) ?_
  refine lv_iload_n hx hb dX8_init_13 rfl (lv_at hl 1 rfl) ?_
  refine va_newa (atype := .long) (a0 := (4000, .inr (.inl (fun _ => 0)))) (ty := .long) hx hb (hts (.arrayClass .long) (wm_c_q4000 6 rfl)) rfl hK hP hD hS hA (fun _ => rfl) (by decide) (by decide +kernel) (show 4000 * 8 ≤ 536870912 by omega) (show 1 + 1 ≤ 2 by omega) (show 20 + 4000 ≤ 4020 by omega) dX8_init_14 (fun q_3 k_4 H hK hP hD hS => ?_)
  have hP : va_P (dC, dI) vwCl [(h, .inr (8, [.null, .ref q_1, .int 0, .int 0])), (q_1, .inl (k_2, 20, .inl (fun _ => 0))), (q_3, .inl (k_4, 4000, .inr (.inl (fun _ => 0))))] H := hP
  have hD : va_D A [(h, .inr (8, [.null, .ref q_1, .int 0, .int 0])), (q_1, .inl (k_2, 20, .inl (fun _ => 0))), (q_3, .inl (k_4, 4000, .inr (.inl (fun _ => 0))))] := hD
  have hK : va_K (dC, dI) vwCl [(k_2, .byte), (k_4, .long)] s := hK
  refine W.widen (k := 2) (n := 4020) (by omega) (by omega) ?_
  refine va_putF (D := (dC, dI)) (ci := 8) (v := .ref q_3) (ty := (.array .long)) (C := RX8) (T := TX8) (N := 4) hx hb hts in_c_q4000_X8 tyX8 tyX8_ok nmX8 hown hK hP hD hS 0 rfl rfl 0 (by decide) (hts (.fieldLink RX8 13 "OwnedPlaces$Queue" "row" "[J") (wm_c_q4000 7 rfl)) (fun _ h9 => h9) rfl hin rfl (by decide +kernel) rfl rfl (Nat.le_of_ble_eq_true rfl) dX8_init_16 (fun H locs hP hD hS => ?_)
  have hP : va_P (dC, dI) vwCl [(h, .inr (8, [.ref q_3, .ref q_1, .int 0, .int 0])), (q_1, .inl (k_2, 20, .inl (fun _ => 0))), (q_3, .inl (k_4, 4000, .inr (.inl (fun _ => 0))))] H := hP
  have hD : va_D A [(h, .inr (8, [.ref q_3, .ref q_1, .int 0, .int 0])), (q_1, .inl (k_2, 20, .inl (fun _ => 0))), (q_3, .inl (k_4, 4000, .inr (.inl (fun _ => 0))))] := hD
  have hP9 := hP.sub (ws' := [(h, .inr (8, [.ref q_3, .ref q_1, .int 0, .int 0]))]) [0] rfl
  have hD9 := hD.sub (ws' := [(h, .inr (8, [.ref q_3, .ref q_1, .int 0, .int 0]))]) [0] (by decide) rfl
  have hK9 := hK.sub (tys' := []) [] rfl
  refine W.widen (k := 2) (n := 4020) (by omega) (by omega) ?_
  exact W.vret hx hb hr (fun tS ht hW => ⟨⟨(), rfl, trivial, q_3, q_1, by rw [ht]; exact hP9, va_K.moved hW.alike hK9, hD9⟩, hS.F ht⟩) hS.2.2 dX8_init_19
def wf_c_grammar : List Cond := [.code yX3_init cX3_init 2 none, .methodLink RX3 3 objectInit, .instanceMethod objectInit, .code objectInit ⟨#[0xb1]⟩ 1 none, .arrayClass .int, .fieldLink RX3 9 "OwnedPlaces$Grammar" "items" "[I", .fieldLink RX3 15 "OwnedPlaces$Grammar" "text" "LOwnedPlaces$Text;"]
def wp_c_grammar : List Cond := wf_c_grammar ++ (wsX30 ++ [])
theorem in_c_grammar_X3 : ∀ w ∈ wsX30, w ∈ wp_c_grammar := fun w h => List.mem_append_right _ (List.mem_append_left _ h)
theorem wg_c_grammar : wf_c_grammar.all goodWord = true := by decide +kernel
theorem wm_c_grammar (k : Nat) {w : Cond} (h : wp_c_grammar[k]? = some w) : w ∈ wp_c_grammar := List.mem_of_getElem? h
set_option maxHeartbeats 4000000 in
set_option maxRecDepth 100000 in
theorem c_grammar (l : Launch) (dC : Nat → ClassId) (dI : Nat → Nat → Nat) (g h : Nat) (sz : Nat) : Met l yX3_init wp_c_grammar ({ frames := 1, cells := 1, slots := 70, locals := 12 }) (va_Pc [.ref g, .ref h] (fun U => U.heap.size = sz ∧ va_P (dC, dI) vwCl [(g, .inr (3, [.null, .null, .int 0, .int 0, .int 0, .int 0, .int 0]))] U.heap ∧ va_K (dC, dI) vwCl [] U ∧ va_D (fun _ => True) [(g, .inr (3, [.null, .null, .int 0, .int 0, .int 0, .int 0, .int 0]))])) (va_Qv (fun _ : Unit => True) (fun (_ : Unit) (t : State) => ∃ (gi : Nat), va_P (dC, dI) vwCl [(g, .inr (3, [.ref h, .ref gi, .int 0, .int 0, .int 0, .int 0, .int 0]))] t.heap ∧ va_K (dC, dI) vwCl [] t ∧ va_D (va_A [(g, .inr (3, [.null, .null, .int 0, .int 0, .int 0, .int 0, .int 0]))] sz) [(g, .inr (3, [.ref h, .ref gi, .int 0, .int 0, .int 0, .int 0, .int 0]))]) (va_A [(g, .inr (3, [.null, .null, .int 0, .int 0, .int 0, .int 0, .int 0]))] sz)) 1 70 (va_A [(g, .inr (3, [.null, .null, .int 0, .int 0, .int 0, .int 0, .int 0]))] sz) := by
  refine Met.ofW (cc := cX3_init) (maxL := 2) (ret := none) (by decide) rfl ?_
  intro p e s m args below meth c s₁ B hml hv
  obtain ⟨rfl, hsz, hP, hK, hD0⟩ := hv
  have hx := B.exec
  have hb := B.bytes
  have hr := B.returns
  have hts := atoms_spec (ws := wp_c_grammar) B.pre
  have hown : s.vm.findClass RX3 = some m.cls := findClass_of_methodNamed B.named
  have hlocks := B.notSynchronized
  have hin : meth.name = "<init>" := (name_of_methodNamed B.named B.method).1
  subst hsz
  have hD := hD0.self (sz := s.heap.size)
  generalize hAe : va_A [(g, .inr (3, [.null, .null, .int 0, .int 0, .int 0, .int 0, .int 0]))] s.heap.size = A at hD ⊢
  have hA : ∀ q : Nat, s.heap.size ≤ q → A q := fun q h => by rw [← hAe]; exact Or.inr h
  have hS : va_S A s.heap s.heap [] := va_S.rf
  have hP : va_P (dC, dI) vwCl [(g, .inr (3, [.null, .null, .int 0, .int 0, .int 0, .int 0, .int 0]))] s.heap := hP
  have hl := lv_entry ([.ref g, .ref h]) (n := 2) (Nat.le_of_ble_eq_true rfl)
  rw [lg_entry_eq]
  generalize (lg_sl ([.ref g, .ref h]) ++ List.replicate (2 - (lg_sl ([.ref g, .ref h])).length) Slot.unset).toArray = ls at hl ⊢
  have hl : lv_has ls 2 [(0, .ref g), (1, .ref h)] := hl
  refine lv_aload_n hx hb dX3_init_0 rfl (lv_at hl 0 rfl) ?_
  refine W.objInit hx hb hown (hts (.methodLink RX3 3 objectInit) (wm_c_grammar 1 rfl)) (hts (.instanceMethod objectInit) (wm_c_grammar 2 rfl)) (hts (.code objectInit ⟨#[0xb1]⟩ 1 none) (wm_c_grammar 3 rfl)) rfl (by rw [hml]; exact hl.1) rfl dX3_init_1 (Nat.le_of_ble_eq_true rfl) (Nat.le_of_ble_eq_true rfl) ?_
  refine W.eq (g2 := F0 m 4 ls []) rfl ?_
  refine lv_aload_n hx hb dX3_init_4 rfl (lv_at hl 0 rfl) ?_
  refine lv_bipush (v := 70) hx hb dX3_init_5 (by decide) ?_
  refine va_newa (atype := .int) (a0 := (70, .inl (fun _ => 0))) (ty := .int) hx hb (hts (.arrayClass .int) (wm_c_grammar 4 rfl)) rfl hK hP hD hS hA (fun _ => rfl) (by decide) (by decide +kernel) (show 70 * 4 ≤ 536870912 by omega) (show 0 + 1 ≤ 1 by omega) (show 0 + 70 ≤ 70 by omega) dX3_init_7 (fun q_1 k_2 H hK hP hD hS => ?_)
  have hP : va_P (dC, dI) vwCl [(g, .inr (3, [.null, .null, .int 0, .int 0, .int 0, .int 0, .int 0])), (q_1, .inl (k_2, 70, .inl (fun _ => 0)))] H := hP
  have hD : va_D A [(g, .inr (3, [.null, .null, .int 0, .int 0, .int 0, .int 0, .int 0])), (q_1, .inl (k_2, 70, .inl (fun _ => 0)))] := hD
  have hK : va_K (dC, dI) vwCl [(k_2, .int)] s := hK
  refine W.widen (k := 1) (n := 70) (by omega) (by omega) ?_
  refine va_putF (D := (dC, dI)) (ci := 3) (v := .ref q_1) (ty := (.array .int)) (C := RX3) (T := TX3) (N := 7) hx hb hts in_c_grammar_X3 tyX3 tyX3_ok nmX3 hown hK hP hD hS 0 rfl rfl 1 (by decide) (hts (.fieldLink RX3 9 "OwnedPlaces$Grammar" "items" "[I") (wm_c_grammar 5 rfl)) (fun _ h9 => h9) rfl hin rfl (by decide +kernel) rfl rfl (Nat.le_of_ble_eq_true rfl) dX3_init_9 (fun H locs hP hD hS => ?_)
  have hP : va_P (dC, dI) vwCl [(g, .inr (3, [.null, .ref q_1, .int 0, .int 0, .int 0, .int 0, .int 0])), (q_1, .inl (k_2, 70, .inl (fun _ => 0)))] H := hP
  have hD : va_D A [(g, .inr (3, [.null, .ref q_1, .int 0, .int 0, .int 0, .int 0, .int 0])), (q_1, .inl (k_2, 70, .inl (fun _ => 0)))] := hD
  refine lv_aload_n hx hb dX3_init_12 rfl (lv_at hl 0 rfl) ?_
  refine lv_aload_n hx hb dX3_init_13 rfl (lv_at hl 1 rfl) ?_
  refine va_putF (D := (dC, dI)) (ci := 3) (v := .ref h) (ty := (.object "OwnedPlaces$Text")) (C := RX3) (T := TX3) (N := 7) hx hb hts in_c_grammar_X3 tyX3 tyX3_ok nmX3 hown hK hP hD hS 0 rfl rfl 0 (by decide) (hts (.fieldLink RX3 15 "OwnedPlaces$Grammar" "text" "LOwnedPlaces$Text;") (wm_c_grammar 6 rfl)) (fun _ h9 => h9) rfl hin rfl (by decide +kernel) rfl rfl (Nat.le_of_ble_eq_true rfl) dX3_init_14 (fun H locs hP hD hS => ?_)
  have hP : va_P (dC, dI) vwCl [(g, .inr (3, [.ref h, .ref q_1, .int 0, .int 0, .int 0, .int 0, .int 0])), (q_1, .inl (k_2, 70, .inl (fun _ => 0)))] H := hP
  have hD : va_D A [(g, .inr (3, [.ref h, .ref q_1, .int 0, .int 0, .int 0, .int 0, .int 0])), (q_1, .inl (k_2, 70, .inl (fun _ => 0)))] := hD
  have hP9 := hP.sub (ws' := [(g, .inr (3, [.ref h, .ref q_1, .int 0, .int 0, .int 0, .int 0, .int 0]))]) [0] rfl
  have hD9 := hD.sub (ws' := [(g, .inr (3, [.ref h, .ref q_1, .int 0, .int 0, .int 0, .int 0, .int 0]))]) [0] (by decide) rfl
  have hK9 := hK.sub (tys' := []) [] rfl
  refine W.widen (k := 1) (n := 70) (by omega) (by omega) ?_
  exact W.vret hx hb hr (fun tS ht hW => ⟨⟨(), rfl, trivial, q_1, by rw [ht]; exact hP9, va_K.moved hW.alike hK9, hD9⟩, hS.F ht⟩) hS.2.2 dX3_init_17
def wf_c_function : List Cond := [.code yX2_init cX2_init 1 none, .methodLink RX2 3 objectInit, .instanceMethod objectInit, .code objectInit ⟨#[0xb1]⟩ 1 none, .arrayClass .int, .fieldLink RX2 9 "OwnedPlaces$Function" "lifeName" "[I", .fieldLink RX2 15 "OwnedPlaces$Function" "parameterLife" "[I", .fieldLink RX2 18 "OwnedPlaces$Function" "name" "[I", .fieldLink RX2 21 "OwnedPlaces$Function" "type" "[I", .arrayClass .boolean, .fieldLink RX2 24 "OwnedPlaces$Function" "mutable" "[Z", .fieldLink RX2 28 "OwnedPlaces$Function" "offset" "[I", .fieldLink RX2 31 "OwnedPlaces$Function" "from" "[I", .fieldLink RX2 34 "OwnedPlaces$Function" "to" "[I"]
def wp_c_function : List Cond := wf_c_function ++ (wsX20 ++ [])
theorem in_c_function_X2 : ∀ w ∈ wsX20, w ∈ wp_c_function := fun w h => List.mem_append_right _ (List.mem_append_left _ h)
theorem wg_c_function : wf_c_function.all goodWord = true := by decide +kernel
theorem wm_c_function (k : Nat) {w : Cond} (h : wp_c_function[k]? = some w) : w ∈ wp_c_function := List.mem_of_getElem? h
set_option maxHeartbeats 4000000 in
set_option maxRecDepth 100000 in
theorem c_function (l : Launch) (dC : Nat → ClassId) (dI : Nat → Nat → Nat) (h : Nat) (sz : Nat) : Met l yX2_init wp_c_function ({ frames := 1, cells := 8, slots := 260, locals := 12 }) (va_Pc [.ref h] (fun U => U.heap.size = sz ∧ va_P (dC, dI) vwCl [(h, .inr (2, [.int 0, .int 0, .int 0, .null, .int 0, .null, .int 0, .int 0, .int 0, .int 0, .null, .null, .null, .null, .null, .null, .int 0, .int 0, .int 0, .int 0, .int 0, .int 0]))] U.heap ∧ va_K (dC, dI) vwCl [] U ∧ va_D (fun _ => True) [(h, .inr (2, [.int 0, .int 0, .int 0, .null, .int 0, .null, .int 0, .int 0, .int 0, .int 0, .null, .null, .null, .null, .null, .null, .int 0, .int 0, .int 0, .int 0, .int 0, .int 0]))])) (va_Qv (fun _ : Unit => True) (fun (_ : Unit) (t : State) => ∃ (q3 : Nat) (q5 : Nat) (q10 : Nat) (q11 : Nat) (q12 : Nat) (q13 : Nat) (q14 : Nat) (q15 : Nat), va_P (dC, dI) vwCl [(h, .inr (2, [.int 0, .int 0, .int 0, .ref q3, .int 0, .ref q5, .int 0, .int 0, .int 0, .int 0, .ref q10, .ref q11, .ref q12, .ref q13, .ref q14, .ref q15, .int 0, .int 0, .int 0, .int 0, .int 0, .int 0]))] t.heap ∧ va_K (dC, dI) vwCl [] t ∧ va_D (va_A [(h, .inr (2, [.int 0, .int 0, .int 0, .null, .int 0, .null, .int 0, .int 0, .int 0, .int 0, .null, .null, .null, .null, .null, .null, .int 0, .int 0, .int 0, .int 0, .int 0, .int 0]))] sz) [(h, .inr (2, [.int 0, .int 0, .int 0, .ref q3, .int 0, .ref q5, .int 0, .int 0, .int 0, .int 0, .ref q10, .ref q11, .ref q12, .ref q13, .ref q14, .ref q15, .int 0, .int 0, .int 0, .int 0, .int 0, .int 0]))]) (va_A [(h, .inr (2, [.int 0, .int 0, .int 0, .null, .int 0, .null, .int 0, .int 0, .int 0, .int 0, .null, .null, .null, .null, .null, .null, .int 0, .int 0, .int 0, .int 0, .int 0, .int 0]))] sz)) 8 260 (va_A [(h, .inr (2, [.int 0, .int 0, .int 0, .null, .int 0, .null, .int 0, .int 0, .int 0, .int 0, .null, .null, .null, .null, .null, .null, .int 0, .int 0, .int 0, .int 0, .int 0, .int 0]))] sz) := by
  refine Met.ofW (cc := cX2_init) (maxL := 1) (ret := none) (by decide) rfl ?_
  intro p e s m args below meth c s₁ B hml hv
  obtain ⟨rfl, hsz, hP, hK, hD0⟩ := hv
  have hx := B.exec
  have hb := B.bytes
  have hr := B.returns
  have hts := atoms_spec (ws := wp_c_function) B.pre
  have hown : s.vm.findClass RX2 = some m.cls := findClass_of_methodNamed B.named
  have hlocks := B.notSynchronized
  have hin : meth.name = "<init>" := (name_of_methodNamed B.named B.method).1
  subst hsz
  have hD := hD0.self (sz := s.heap.size)
  generalize hAe : va_A [(h, .inr (2, [.int 0, .int 0, .int 0, .null, .int 0, .null, .int 0, .int 0, .int 0, .int 0, .null, .null, .null, .null, .null, .null, .int 0, .int 0, .int 0, .int 0, .int 0, .int 0]))] s.heap.size = A at hD ⊢
  have hA : ∀ q : Nat, s.heap.size ≤ q → A q := fun q h => by rw [← hAe]; exact Or.inr h
  have hS : va_S A s.heap s.heap [] := va_S.rf
  have hP : va_P (dC, dI) vwCl [(h, .inr (2, [.int 0, .int 0, .int 0, .null, .int 0, .null, .int 0, .int 0, .int 0, .int 0, .null, .null, .null, .null, .null, .null, .int 0, .int 0, .int 0, .int 0, .int 0, .int 0]))] s.heap := hP
  have hl := lv_entry ([.ref h]) (n := 1) (Nat.le_of_ble_eq_true rfl)
  rw [lg_entry_eq]
  generalize (lg_sl ([.ref h]) ++ List.replicate (1 - (lg_sl ([.ref h])).length) Slot.unset).toArray = ls at hl ⊢
  have hl : lv_has ls 1 [(0, .ref h)] := hl
  refine lv_aload_n hx hb dX2_init_0 rfl (lv_at hl 0 rfl) ?_
  refine W.objInit hx hb hown (hts (.methodLink RX2 3 objectInit) (wm_c_function 1 rfl)) (hts (.instanceMethod objectInit) (wm_c_function 2 rfl)) (hts (.code objectInit ⟨#[0xb1]⟩ 1 none) (wm_c_function 3 rfl)) rfl (by rw [hml]; exact hl.1) rfl dX2_init_1 (Nat.le_of_ble_eq_true rfl) (Nat.le_of_ble_eq_true rfl) ?_
  refine W.eq (g2 := F0 m 4 ls []) rfl ?_
  refine lv_aload_n hx hb dX2_init_4 rfl (lv_at hl 0 rfl) ?_
  refine lv_bipush (v := 8) hx hb dX2_init_5 (by decide) ?_
  refine va_newa (atype := .int) (a0 := (8, .inl (fun _ => 0))) (ty := .int) hx hb (hts (.arrayClass .int) (wm_c_function 4 rfl)) rfl hK hP hD hS hA (fun _ => rfl) (by decide) (by decide +kernel) (show 8 * 4 ≤ 536870912 by omega) (show 0 + 1 ≤ 8 by omega) (show 0 + 8 ≤ 260 by omega) dX2_init_7 (fun q_1 k_2 H _ hP hD hS => ?_)
  have hP := hP.sub (ws' := [(h, .inr (2, [.int 0, .int 0, .int 0, .null, .int 0, .null, .int 0, .int 0, .int 0, .int 0, .null, .null, .null, .null, .null, .null, .int 0, .int 0, .int 0, .int 0, .int 0, .int 0]))]) [0] rfl
  have hD := hD.sub (ws' := [(h, .inr (2, [.int 0, .int 0, .int 0, .null, .int 0, .null, .int 0, .int 0, .int 0, .int 0, .null, .null, .null, .null, .null, .null, .int 0, .int 0, .int 0, .int 0, .int 0, .int 0]))]) [0] (by decide) rfl
  refine W.widen (k := 1) (n := 8) (by omega) (by omega) ?_
  refine va_putF (D := (dC, dI)) (ci := 2) (v := .ref q_1) (ty := (.array .int)) (C := RX2) (T := TX2) (N := 22) hx hb hts in_c_function_X2 tyX2 tyX2_ok nmX2 hown hK hP hD hS 0 rfl rfl 3 (by decide) (hts (.fieldLink RX2 9 "OwnedPlaces$Function" "lifeName" "[I") (wm_c_function 5 rfl)) (fun _ h9 => h9) rfl hin rfl (by decide +kernel) rfl rfl (Nat.le_of_ble_eq_true rfl) dX2_init_9 (fun H locs hP hD hS => ?_)
  have hP : va_P (dC, dI) vwCl [(h, .inr (2, [.int 0, .int 0, .int 0, .ref q_1, .int 0, .null, .int 0, .int 0, .int 0, .int 0, .null, .null, .null, .null, .null, .null, .int 0, .int 0, .int 0, .int 0, .int 0, .int 0]))] H := hP
  have hD : va_D A [(h, .inr (2, [.int 0, .int 0, .int 0, .ref q_1, .int 0, .null, .int 0, .int 0, .int 0, .int 0, .null, .null, .null, .null, .null, .null, .int 0, .int 0, .int 0, .int 0, .int 0, .int 0]))] := hD
  refine lv_aload_n hx hb dX2_init_12 rfl (lv_at hl 0 rfl) ?_
  refine lv_bipush (v := 12) hx hb dX2_init_13 (by decide) ?_
  refine va_newa (atype := .int) (a0 := (12, .inl (fun _ => 0))) (ty := .int) hx hb (hts (.arrayClass .int) (wm_c_function 4 rfl)) rfl hK hP hD hS hA (fun _ => rfl) (by decide) (by decide +kernel) (show 12 * 4 ≤ 536870912 by omega) (show 1 + 1 ≤ 8 by omega) (show 8 + 12 ≤ 260 by omega) dX2_init_15 (fun q_3 k_4 H _ hP hD hS => ?_)
  have hP := hP.sub (ws' := [(h, .inr (2, [.int 0, .int 0, .int 0, .ref q_1, .int 0, .null, .int 0, .int 0, .int 0, .int 0, .null, .null, .null, .null, .null, .null, .int 0, .int 0, .int 0, .int 0, .int 0, .int 0]))]) [0] rfl
  have hD := hD.sub (ws' := [(h, .inr (2, [.int 0, .int 0, .int 0, .ref q_1, .int 0, .null, .int 0, .int 0, .int 0, .int 0, .null, .null, .null, .null, .null, .null, .int 0, .int 0, .int 0, .int 0, .int 0, .int 0]))]) [0] (by decide) rfl
  refine W.widen (k := 2) (n := 20) (by omega) (by omega) ?_
  refine va_putF (D := (dC, dI)) (ci := 2) (v := .ref q_3) (ty := (.array .int)) (C := RX2) (T := TX2) (N := 22) hx hb hts in_c_function_X2 tyX2 tyX2_ok nmX2 hown hK hP hD hS 0 rfl rfl 5 (by decide) (hts (.fieldLink RX2 15 "OwnedPlaces$Function" "parameterLife" "[I") (wm_c_function 6 rfl)) (fun _ h9 => h9) rfl hin rfl (by decide +kernel) rfl rfl (Nat.le_of_ble_eq_true rfl) dX2_init_17 (fun H locs hP hD hS => ?_)
  have hP : va_P (dC, dI) vwCl [(h, .inr (2, [.int 0, .int 0, .int 0, .ref q_1, .int 0, .ref q_3, .int 0, .int 0, .int 0, .int 0, .null, .null, .null, .null, .null, .null, .int 0, .int 0, .int 0, .int 0, .int 0, .int 0]))] H := hP
  have hD : va_D A [(h, .inr (2, [.int 0, .int 0, .int 0, .ref q_1, .int 0, .ref q_3, .int 0, .int 0, .int 0, .int 0, .null, .null, .null, .null, .null, .null, .int 0, .int 0, .int 0, .int 0, .int 0, .int 0]))] := hD
  refine lv_aload_n hx hb dX2_init_20 rfl (lv_at hl 0 rfl) ?_
  refine lv_bipush (v := 40) hx hb dX2_init_21 (by decide) ?_
  refine va_newa (atype := .int) (a0 := (40, .inl (fun _ => 0))) (ty := .int) hx hb (hts (.arrayClass .int) (wm_c_function 4 rfl)) rfl hK hP hD hS hA (fun _ => rfl) (by decide) (by decide +kernel) (show 40 * 4 ≤ 536870912 by omega) (show 2 + 1 ≤ 8 by omega) (show 20 + 40 ≤ 260 by omega) dX2_init_23 (fun q_5 k_6 H _ hP hD hS => ?_)
  have hP := hP.sub (ws' := [(h, .inr (2, [.int 0, .int 0, .int 0, .ref q_1, .int 0, .ref q_3, .int 0, .int 0, .int 0, .int 0, .null, .null, .null, .null, .null, .null, .int 0, .int 0, .int 0, .int 0, .int 0, .int 0]))]) [0] rfl
  have hD := hD.sub (ws' := [(h, .inr (2, [.int 0, .int 0, .int 0, .ref q_1, .int 0, .ref q_3, .int 0, .int 0, .int 0, .int 0, .null, .null, .null, .null, .null, .null, .int 0, .int 0, .int 0, .int 0, .int 0, .int 0]))]) [0] (by decide) rfl
  refine W.widen (k := 3) (n := 60) (by omega) (by omega) ?_
  refine va_putF (D := (dC, dI)) (ci := 2) (v := .ref q_5) (ty := (.array .int)) (C := RX2) (T := TX2) (N := 22) hx hb hts in_c_function_X2 tyX2 tyX2_ok nmX2 hown hK hP hD hS 0 rfl rfl 10 (by decide) (hts (.fieldLink RX2 18 "OwnedPlaces$Function" "name" "[I") (wm_c_function 7 rfl)) (fun _ h9 => h9) rfl hin rfl (by decide +kernel) rfl rfl (Nat.le_of_ble_eq_true rfl) dX2_init_25 (fun H locs hP hD hS => ?_)
  have hP : va_P (dC, dI) vwCl [(h, .inr (2, [.int 0, .int 0, .int 0, .ref q_1, .int 0, .ref q_3, .int 0, .int 0, .int 0, .int 0, .ref q_5, .null, .null, .null, .null, .null, .int 0, .int 0, .int 0, .int 0, .int 0, .int 0]))] H := hP
  have hD : va_D A [(h, .inr (2, [.int 0, .int 0, .int 0, .ref q_1, .int 0, .ref q_3, .int 0, .int 0, .int 0, .int 0, .ref q_5, .null, .null, .null, .null, .null, .int 0, .int 0, .int 0, .int 0, .int 0, .int 0]))] := hD
  refine lv_aload_n hx hb dX2_init_28 rfl (lv_at hl 0 rfl) ?_
  refine lv_bipush (v := 40) hx hb dX2_init_29 (by decide) ?_
  refine va_newa (atype := .int) (a0 := (40, .inl (fun _ => 0))) (ty := .int) hx hb (hts (.arrayClass .int) (wm_c_function 4 rfl)) rfl hK hP hD hS hA (fun _ => rfl) (by decide) (by decide +kernel) (show 40 * 4 ≤ 536870912 by omega) (show 3 + 1 ≤ 8 by omega) (show 60 + 40 ≤ 260 by omega) dX2_init_31 (fun q_7 k_8 H _ hP hD hS => ?_)
  have hP := hP.sub (ws' := [(h, .inr (2, [.int 0, .int 0, .int 0, .ref q_1, .int 0, .ref q_3, .int 0, .int 0, .int 0, .int 0, .ref q_5, .null, .null, .null, .null, .null, .int 0, .int 0, .int 0, .int 0, .int 0, .int 0]))]) [0] rfl
  have hD := hD.sub (ws' := [(h, .inr (2, [.int 0, .int 0, .int 0, .ref q_1, .int 0, .ref q_3, .int 0, .int 0, .int 0, .int 0, .ref q_5, .null, .null, .null, .null, .null, .int 0, .int 0, .int 0, .int 0, .int 0, .int 0]))]) [0] (by decide) rfl
  refine W.widen (k := 4) (n := 100) (by omega) (by omega) ?_
  refine va_putF (D := (dC, dI)) (ci := 2) (v := .ref q_7) (ty := (.array .int)) (C := RX2) (T := TX2) (N := 22) hx hb hts in_c_function_X2 tyX2 tyX2_ok nmX2 hown hK hP hD hS 0 rfl rfl 11 (by decide) (hts (.fieldLink RX2 21 "OwnedPlaces$Function" "type" "[I") (wm_c_function 8 rfl)) (fun _ h9 => h9) rfl hin rfl (by decide +kernel) rfl rfl (Nat.le_of_ble_eq_true rfl) dX2_init_33 (fun H locs hP hD hS => ?_)
  have hP : va_P (dC, dI) vwCl [(h, .inr (2, [.int 0, .int 0, .int 0, .ref q_1, .int 0, .ref q_3, .int 0, .int 0, .int 0, .int 0, .ref q_5, .ref q_7, .null, .null, .null, .null, .int 0, .int 0, .int 0, .int 0, .int 0, .int 0]))] H := hP
  have hD : va_D A [(h, .inr (2, [.int 0, .int 0, .int 0, .ref q_1, .int 0, .ref q_3, .int 0, .int 0, .int 0, .int 0, .ref q_5, .ref q_7, .null, .null, .null, .null, .int 0, .int 0, .int 0, .int 0, .int 0, .int 0]))] := hD
  refine lv_aload_n hx hb dX2_init_36 rfl (lv_at hl 0 rfl) ?_
  refine lv_bipush (v := 40) hx hb dX2_init_37 (by decide) ?_
  refine va_newa (atype := .boolean) (a0 := (40, .inl (fun _ => 0))) (ty := .boolean) hx hb (hts (.arrayClass .boolean) (wm_c_function 9 rfl)) rfl hK hP hD hS hA (fun _ => rfl) (by decide) (by decide +kernel) (show 40 * 1 ≤ 536870912 by omega) (show 4 + 1 ≤ 8 by omega) (show 100 + 40 ≤ 260 by omega) dX2_init_39 (fun q_9 k_10 H _ hP hD hS => ?_)
  have hP := hP.sub (ws' := [(h, .inr (2, [.int 0, .int 0, .int 0, .ref q_1, .int 0, .ref q_3, .int 0, .int 0, .int 0, .int 0, .ref q_5, .ref q_7, .null, .null, .null, .null, .int 0, .int 0, .int 0, .int 0, .int 0, .int 0]))]) [0] rfl
  have hD := hD.sub (ws' := [(h, .inr (2, [.int 0, .int 0, .int 0, .ref q_1, .int 0, .ref q_3, .int 0, .int 0, .int 0, .int 0, .ref q_5, .ref q_7, .null, .null, .null, .null, .int 0, .int 0, .int 0, .int 0, .int 0, .int 0]))]) [0] (by decide) rfl
  refine W.widen (k := 5) (n := 140) (by omega) (by omega) ?_
  refine va_putF (D := (dC, dI)) (ci := 2) (v := .ref q_9) (ty := (.array .boolean)) (C := RX2) (T := TX2) (N := 22) hx hb hts in_c_function_X2 tyX2 tyX2_ok nmX2 hown hK hP hD hS 0 rfl rfl 12 (by decide) (hts (.fieldLink RX2 24 "OwnedPlaces$Function" "mutable" "[Z") (wm_c_function 10 rfl)) (fun _ h9 => h9) rfl hin rfl (by decide +kernel) rfl rfl (Nat.le_of_ble_eq_true rfl) dX2_init_41 (fun H locs hP hD hS => ?_)
  have hP : va_P (dC, dI) vwCl [(h, .inr (2, [.int 0, .int 0, .int 0, .ref q_1, .int 0, .ref q_3, .int 0, .int 0, .int 0, .int 0, .ref q_5, .ref q_7, .ref q_9, .null, .null, .null, .int 0, .int 0, .int 0, .int 0, .int 0, .int 0]))] H := hP
  have hD : va_D A [(h, .inr (2, [.int 0, .int 0, .int 0, .ref q_1, .int 0, .ref q_3, .int 0, .int 0, .int 0, .int 0, .ref q_5, .ref q_7, .ref q_9, .null, .null, .null, .int 0, .int 0, .int 0, .int 0, .int 0, .int 0]))] := hD
  refine lv_aload_n hx hb dX2_init_44 rfl (lv_at hl 0 rfl) ?_
  refine lv_bipush (v := 40) hx hb dX2_init_45 (by decide) ?_
  refine va_newa (atype := .int) (a0 := (40, .inl (fun _ => 0))) (ty := .int) hx hb (hts (.arrayClass .int) (wm_c_function 4 rfl)) rfl hK hP hD hS hA (fun _ => rfl) (by decide) (by decide +kernel) (show 40 * 4 ≤ 536870912 by omega) (show 5 + 1 ≤ 8 by omega) (show 140 + 40 ≤ 260 by omega) dX2_init_47 (fun q_11 k_12 H _ hP hD hS => ?_)
  have hP := hP.sub (ws' := [(h, .inr (2, [.int 0, .int 0, .int 0, .ref q_1, .int 0, .ref q_3, .int 0, .int 0, .int 0, .int 0, .ref q_5, .ref q_7, .ref q_9, .null, .null, .null, .int 0, .int 0, .int 0, .int 0, .int 0, .int 0]))]) [0] rfl
  have hD := hD.sub (ws' := [(h, .inr (2, [.int 0, .int 0, .int 0, .ref q_1, .int 0, .ref q_3, .int 0, .int 0, .int 0, .int 0, .ref q_5, .ref q_7, .ref q_9, .null, .null, .null, .int 0, .int 0, .int 0, .int 0, .int 0, .int 0]))]) [0] (by decide) rfl
  refine W.widen (k := 6) (n := 180) (by omega) (by omega) ?_
  refine va_putF (D := (dC, dI)) (ci := 2) (v := .ref q_11) (ty := (.array .int)) (C := RX2) (T := TX2) (N := 22) hx hb hts in_c_function_X2 tyX2 tyX2_ok nmX2 hown hK hP hD hS 0 rfl rfl 13 (by decide) (hts (.fieldLink RX2 28 "OwnedPlaces$Function" "offset" "[I") (wm_c_function 11 rfl)) (fun _ h9 => h9) rfl hin rfl (by decide +kernel) rfl rfl (Nat.le_of_ble_eq_true rfl) dX2_init_49 (fun H locs hP hD hS => ?_)
  have hP : va_P (dC, dI) vwCl [(h, .inr (2, [.int 0, .int 0, .int 0, .ref q_1, .int 0, .ref q_3, .int 0, .int 0, .int 0, .int 0, .ref q_5, .ref q_7, .ref q_9, .ref q_11, .null, .null, .int 0, .int 0, .int 0, .int 0, .int 0, .int 0]))] H := hP
  have hD : va_D A [(h, .inr (2, [.int 0, .int 0, .int 0, .ref q_1, .int 0, .ref q_3, .int 0, .int 0, .int 0, .int 0, .ref q_5, .ref q_7, .ref q_9, .ref q_11, .null, .null, .int 0, .int 0, .int 0, .int 0, .int 0, .int 0]))] := hD
  refine lv_aload_n hx hb dX2_init_52 rfl (lv_at hl 0 rfl) ?_
  refine lv_bipush (v := 40) hx hb dX2_init_53 (by decide) ?_
  refine va_newa (atype := .int) (a0 := (40, .inl (fun _ => 0))) (ty := .int) hx hb (hts (.arrayClass .int) (wm_c_function 4 rfl)) rfl hK hP hD hS hA (fun _ => rfl) (by decide) (by decide +kernel) (show 40 * 4 ≤ 536870912 by omega) (show 6 + 1 ≤ 8 by omega) (show 180 + 40 ≤ 260 by omega) dX2_init_55 (fun q_13 k_14 H _ hP hD hS => ?_)
  have hP := hP.sub (ws' := [(h, .inr (2, [.int 0, .int 0, .int 0, .ref q_1, .int 0, .ref q_3, .int 0, .int 0, .int 0, .int 0, .ref q_5, .ref q_7, .ref q_9, .ref q_11, .null, .null, .int 0, .int 0, .int 0, .int 0, .int 0, .int 0]))]) [0] rfl
  have hD := hD.sub (ws' := [(h, .inr (2, [.int 0, .int 0, .int 0, .ref q_1, .int 0, .ref q_3, .int 0, .int 0, .int 0, .int 0, .ref q_5, .ref q_7, .ref q_9, .ref q_11, .null, .null, .int 0, .int 0, .int 0, .int 0, .int 0, .int 0]))]) [0] (by decide) rfl
  refine W.widen (k := 7) (n := 220) (by omega) (by omega) ?_
  refine va_putF (D := (dC, dI)) (ci := 2) (v := .ref q_13) (ty := (.array .int)) (C := RX2) (T := TX2) (N := 22) hx hb hts in_c_function_X2 tyX2 tyX2_ok nmX2 hown hK hP hD hS 0 rfl rfl 14 (by decide) (hts (.fieldLink RX2 31 "OwnedPlaces$Function" "from" "[I") (wm_c_function 12 rfl)) (fun _ h9 => h9) rfl hin rfl (by decide +kernel) rfl rfl (Nat.le_of_ble_eq_true rfl) dX2_init_57 (fun H locs hP hD hS => ?_)
  have hP : va_P (dC, dI) vwCl [(h, .inr (2, [.int 0, .int 0, .int 0, .ref q_1, .int 0, .ref q_3, .int 0, .int 0, .int 0, .int 0, .ref q_5, .ref q_7, .ref q_9, .ref q_11, .ref q_13, .null, .int 0, .int 0, .int 0, .int 0, .int 0, .int 0]))] H := hP
  have hD : va_D A [(h, .inr (2, [.int 0, .int 0, .int 0, .ref q_1, .int 0, .ref q_3, .int 0, .int 0, .int 0, .int 0, .ref q_5, .ref q_7, .ref q_9, .ref q_11, .ref q_13, .null, .int 0, .int 0, .int 0, .int 0, .int 0, .int 0]))] := hD
  refine lv_aload_n hx hb dX2_init_60 rfl (lv_at hl 0 rfl) ?_
  refine lv_bipush (v := 40) hx hb dX2_init_61 (by decide) ?_
  refine va_newa (atype := .int) (a0 := (40, .inl (fun _ => 0))) (ty := .int) hx hb (hts (.arrayClass .int) (wm_c_function 4 rfl)) rfl hK hP hD hS hA (fun _ => rfl) (by decide) (by decide +kernel) (show 40 * 4 ≤ 536870912 by omega) (show 7 + 1 ≤ 8 by omega) (show 220 + 40 ≤ 260 by omega) dX2_init_63 (fun q_15 k_16 H _ hP hD hS => ?_)
  have hP := hP.sub (ws' := [(h, .inr (2, [.int 0, .int 0, .int 0, .ref q_1, .int 0, .ref q_3, .int 0, .int 0, .int 0, .int 0, .ref q_5, .ref q_7, .ref q_9, .ref q_11, .ref q_13, .null, .int 0, .int 0, .int 0, .int 0, .int 0, .int 0]))]) [0] rfl
  have hD := hD.sub (ws' := [(h, .inr (2, [.int 0, .int 0, .int 0, .ref q_1, .int 0, .ref q_3, .int 0, .int 0, .int 0, .int 0, .ref q_5, .ref q_7, .ref q_9, .ref q_11, .ref q_13, .null, .int 0, .int 0, .int 0, .int 0, .int 0, .int 0]))]) [0] (by decide) rfl
  refine W.widen (k := 8) (n := 260) (by omega) (by omega) ?_
  refine va_putF (D := (dC, dI)) (ci := 2) (v := .ref q_15) (ty := (.array .int)) (C := RX2) (T := TX2) (N := 22) hx hb hts in_c_function_X2 tyX2 tyX2_ok nmX2 hown hK hP hD hS 0 rfl rfl 15 (by decide) (hts (.fieldLink RX2 34 "OwnedPlaces$Function" "to" "[I") (wm_c_function 13 rfl)) (fun _ h9 => h9) rfl hin rfl (by decide +kernel) rfl rfl (Nat.le_of_ble_eq_true rfl) dX2_init_65 (fun H locs hP hD hS => ?_)
  have hP : va_P (dC, dI) vwCl [(h, .inr (2, [.int 0, .int 0, .int 0, .ref q_1, .int 0, .ref q_3, .int 0, .int 0, .int 0, .int 0, .ref q_5, .ref q_7, .ref q_9, .ref q_11, .ref q_13, .ref q_15, .int 0, .int 0, .int 0, .int 0, .int 0, .int 0]))] H := hP
  have hD : va_D A [(h, .inr (2, [.int 0, .int 0, .int 0, .ref q_1, .int 0, .ref q_3, .int 0, .int 0, .int 0, .int 0, .ref q_5, .ref q_7, .ref q_9, .ref q_11, .ref q_13, .ref q_15, .int 0, .int 0, .int 0, .int 0, .int 0, .int 0]))] := hD
  have hP9 := hP.sub (ws' := [(h, .inr (2, [.int 0, .int 0, .int 0, .ref q_1, .int 0, .ref q_3, .int 0, .int 0, .int 0, .int 0, .ref q_5, .ref q_7, .ref q_9, .ref q_11, .ref q_13, .ref q_15, .int 0, .int 0, .int 0, .int 0, .int 0, .int 0]))]) [0] rfl
  have hD9 := hD.sub (ws' := [(h, .inr (2, [.int 0, .int 0, .int 0, .ref q_1, .int 0, .ref q_3, .int 0, .int 0, .int 0, .int 0, .ref q_5, .ref q_7, .ref q_9, .ref q_11, .ref q_13, .ref q_15, .int 0, .int 0, .int 0, .int 0, .int 0, .int 0]))]) [0] (by decide) rfl
  have hK9 := hK.sub (tys' := []) [] rfl
  refine W.widen (k := 8) (n := 260) (by omega) (by omega) ?_
  exact W.vret hx hb hr (fun tS ht hW => ⟨⟨(), rfl, trivial, q_1, q_3, q_5, q_7, q_9, q_11, q_13, q_15, by rw [ht]; exact hP9, va_K.moved hW.alike hK9, hD9⟩, hS.F ht⟩) hS.2.2 dX2_init_68
def wf_c_memory : List Cond := [.code yX6_init cX6_init 4 none, .methodLink RX6 3 objectInit, .instanceMethod objectInit, .code objectInit ⟨#[0xb1]⟩ 1 none, .arrayClass .int, .fieldLink RX6 9 "OwnedPlaces$Memory" "dropType" "[I", .fieldLink RX6 15 "OwnedPlaces$Memory" "dropAt" "[I", .fieldLink RX6 18 "OwnedPlaces$Memory" "dropCells" "[I", .fieldLink RX6 21 "OwnedPlaces$Memory" "types" "LOwnedPlaces$Types;", .fieldLink RX6 25 "OwnedPlaces$Memory" "waiting" "LOwnedPlaces$Queue;", .fieldLink RX6 29 "OwnedPlaces$Memory" "heap" "I", .arrayClass .long, .fieldLink RX6 33 "OwnedPlaces$Memory" "cells" "[J", .arrayClass .byte, .fieldLink RX6 37 "OwnedPlaces$Memory" "taken" "[B"]
def wp_c_memory : List Cond := wf_c_memory ++ (wsX60 ++ [])
theorem in_c_memory_X6 : ∀ w ∈ wsX60, w ∈ wp_c_memory := fun w h => List.mem_append_right _ (List.mem_append_left _ h)
theorem wg_c_memory : wf_c_memory.all goodWord = true := by decide +kernel
theorem wm_c_memory (k : Nat) {w : Cond} (h : wp_c_memory[k]? = some w) : w ∈ wp_c_memory := List.mem_of_getElem? h
set_option maxHeartbeats 4000000 in
set_option maxRecDepth 100000 in
theorem c_memory (l : Launch) (dC : Nat → ClassId) (dI : Nat → Nat → Nat) (m0 y qw k : Nat) (sz : Nat) (hk : k ≤ 4000) : Met l yX6_init wp_c_memory ({ frames := 1, cells := 5, slots := 28384, locals := 12 }) (va_Pc [.ref m0, .ref y, .ref qw, .int (nI k)] (fun U => U.heap.size = sz ∧ va_P (dC, dI) vwCl [(m0, .inr (6, [.null, .null, .int 0, .null, .null, .int 0, .int 0, .int 0, .null, .null, .null, .int 0]))] U.heap ∧ va_K (dC, dI) vwCl [] U ∧ va_D (fun _ => True) [(m0, .inr (6, [.null, .null, .int 0, .null, .null, .int 0, .int 0, .int 0, .null, .null, .null, .int 0]))])) (va_Qv (fun _ : Unit => True) (fun (_ : Unit) (t : State) => ∃ (mc : Nat) (mt : Nat) (m1 : Nat) (m2 : Nat) (m3 : Nat) (kB : ClassId), va_P (dC, dI) vwCl [(m0, .inr (6, [.ref y, .ref qw, .int (nI k), .ref mc, .ref mt, .int 0, .int 0, .int 0, .ref m1, .ref m2, .ref m3, .int 0])), (mt, .inl (kB, k, .inl (fun _ => 0)))] t.heap ∧ va_K (dC, dI) vwCl [(kB, .byte)] t ∧ va_D (va_A [(m0, .inr (6, [.null, .null, .int 0, .null, .null, .int 0, .int 0, .int 0, .null, .null, .null, .int 0]))] sz) [(m0, .inr (6, [.ref y, .ref qw, .int (nI k), .ref mc, .ref mt, .int 0, .int 0, .int 0, .ref m1, .ref m2, .ref m3, .int 0])), (mt, .inl (kB, k, .inl (fun _ => 0)))]) (va_A [(m0, .inr (6, [.null, .null, .int 0, .null, .null, .int 0, .int 0, .int 0, .null, .null, .null, .int 0]))] sz)) 5 28384 (va_A [(m0, .inr (6, [.null, .null, .int 0, .null, .null, .int 0, .int 0, .int 0, .null, .null, .null, .int 0]))] sz) := by
  refine Met.ofW (cc := cX6_init) (maxL := 4) (ret := none) (by decide) rfl ?_
  intro p e s m args below meth c s₁ B hml hv
  obtain ⟨rfl, hsz, hP, hK, hD0⟩ := hv
  have hx := B.exec
  have hb := B.bytes
  have hr := B.returns
  have hts := atoms_spec (ws := wp_c_memory) B.pre
  have hown : s.vm.findClass RX6 = some m.cls := findClass_of_methodNamed B.named
  have hlocks := B.notSynchronized
  have hin : meth.name = "<init>" := (name_of_methodNamed B.named B.method).1
  subst hsz
  have hD := hD0.self (sz := s.heap.size)
  generalize hAe : va_A [(m0, .inr (6, [.null, .null, .int 0, .null, .null, .int 0, .int 0, .int 0, .null, .null, .null, .int 0]))] s.heap.size = A at hD ⊢
  have hA : ∀ q : Nat, s.heap.size ≤ q → A q := fun q h => by rw [← hAe]; exact Or.inr h
  have hS : va_S A s.heap s.heap [] := va_S.rf
  have hP : va_P (dC, dI) vwCl [(m0, .inr (6, [.null, .null, .int 0, .null, .null, .int 0, .int 0, .int 0, .null, .null, .null, .int 0]))] s.heap := hP
  have hl := lv_entry ([.ref m0, .ref y, .ref qw, .int (nI k)]) (n := 4) (Nat.le_of_ble_eq_true rfl)
  rw [lg_entry_eq]
  generalize (lg_sl ([.ref m0, .ref y, .ref qw, .int (nI k)]) ++ List.replicate (4 - (lg_sl ([.ref m0, .ref y, .ref qw, .int (nI k)])).length) Slot.unset).toArray = ls at hl ⊢
  have hl : lv_has ls 4 [(0, .ref m0), (1, .ref y), (2, .ref qw), (3, .int (nI k))] := hl
  refine lv_aload_n hx hb dX6_init_0 rfl (lv_at hl 0 rfl) ?_
  refine W.objInit hx hb hown (hts (.methodLink RX6 3 objectInit) (wm_c_memory 1 rfl)) (hts (.instanceMethod objectInit) (wm_c_memory 2 rfl)) (hts (.code objectInit ⟨#[0xb1]⟩ 1 none) (wm_c_memory 3 rfl)) rfl (by rw [hml]; exact hl.1) rfl dX6_init_1 (Nat.le_of_ble_eq_true rfl) (Nat.le_of_ble_eq_true rfl) ?_
  refine W.eq (g2 := F0 m 4 ls []) rfl ?_
  refine lv_aload_n hx hb dX6_init_4 rfl (lv_at hl 0 rfl) ?_
  refine lv_sipush (v := 4064) hx hb dX6_init_5 (by decide) ?_
  refine va_newa (atype := .int) (a0 := (4064, .inl (fun _ => 0))) (ty := .int) hx hb (hts (.arrayClass .int) (wm_c_memory 4 rfl)) rfl hK hP hD hS hA (fun _ => rfl) (by decide) (by decide +kernel) (show 4064 * 4 ≤ 536870912 by omega) (show 0 + 1 ≤ 5 by omega) (show 0 + 4064 ≤ 28384 by omega) dX6_init_8 (fun q_1 k_2 H hK hP hD hS => ?_)
  have hP : va_P (dC, dI) vwCl [(m0, .inr (6, [.null, .null, .int 0, .null, .null, .int 0, .int 0, .int 0, .null, .null, .null, .int 0])), (q_1, .inl (k_2, 4064, .inl (fun _ => 0)))] H := hP
  have hD : va_D A [(m0, .inr (6, [.null, .null, .int 0, .null, .null, .int 0, .int 0, .int 0, .null, .null, .null, .int 0])), (q_1, .inl (k_2, 4064, .inl (fun _ => 0)))] := hD
  have hK : va_K (dC, dI) vwCl [(k_2, .int)] s := hK
  refine W.widen (k := 1) (n := 4064) (by omega) (by omega) ?_
  refine va_putF (D := (dC, dI)) (ci := 6) (v := .ref q_1) (ty := (.array .int)) (C := RX6) (T := TX6) (N := 12) hx hb hts in_c_memory_X6 tyX6 tyX6_ok nmX6 hown hK hP hD hS 0 rfl rfl 8 (by decide) (hts (.fieldLink RX6 9 "OwnedPlaces$Memory" "dropType" "[I") (wm_c_memory 5 rfl)) (fun _ h9 => h9) rfl hin rfl (by decide +kernel) rfl rfl (Nat.le_of_ble_eq_true rfl) dX6_init_10 (fun H locs hP hD hS => ?_)
  have hP : va_P (dC, dI) vwCl [(m0, .inr (6, [.null, .null, .int 0, .null, .null, .int 0, .int 0, .int 0, .ref q_1, .null, .null, .int 0])), (q_1, .inl (k_2, 4064, .inl (fun _ => 0)))] H := hP
  have hD : va_D A [(m0, .inr (6, [.null, .null, .int 0, .null, .null, .int 0, .int 0, .int 0, .ref q_1, .null, .null, .int 0])), (q_1, .inl (k_2, 4064, .inl (fun _ => 0)))] := hD
  refine lv_aload_n hx hb dX6_init_13 rfl (lv_at hl 0 rfl) ?_
  refine lv_sipush (v := 4064) hx hb dX6_init_14 (by decide) ?_
  refine va_newa (atype := .int) (a0 := (4064, .inl (fun _ => 0))) (ty := .int) hx hb (hts (.arrayClass .int) (wm_c_memory 4 rfl)) rfl hK hP hD hS hA (fun _ => rfl) (by decide) (by decide +kernel) (show 4064 * 4 ≤ 536870912 by omega) (show 1 + 1 ≤ 5 by omega) (show 4064 + 4064 ≤ 28384 by omega) dX6_init_17 (fun q_3 k_4 H hK hP hD hS => ?_)
  have hP : va_P (dC, dI) vwCl [(m0, .inr (6, [.null, .null, .int 0, .null, .null, .int 0, .int 0, .int 0, .ref q_1, .null, .null, .int 0])), (q_1, .inl (k_2, 4064, .inl (fun _ => 0))), (q_3, .inl (k_4, 4064, .inl (fun _ => 0)))] H := hP
  have hD : va_D A [(m0, .inr (6, [.null, .null, .int 0, .null, .null, .int 0, .int 0, .int 0, .ref q_1, .null, .null, .int 0])), (q_1, .inl (k_2, 4064, .inl (fun _ => 0))), (q_3, .inl (k_4, 4064, .inl (fun _ => 0)))] := hD
  have hK : va_K (dC, dI) vwCl [(k_2, .int), (k_4, .int)] s := hK
  obtain rfl : k_2 = k_4 := kEq_int hK 0 1 rfl rfl
  have hK := hK.sub (tys' := [(k_2, .int)]) [0] rfl
  have hP : va_P (dC, dI) vwCl [(m0, .inr (6, [.null, .null, .int 0, .null, .null, .int 0, .int 0, .int 0, .ref q_1, .null, .null, .int 0])), (q_1, .inl (k_2, 4064, .inl (fun _ => 0))), (q_3, .inl (k_2, 4064, .inl (fun _ => 0)))] H := hP
  have hD : va_D A [(m0, .inr (6, [.null, .null, .int 0, .null, .null, .int 0, .int 0, .int 0, .ref q_1, .null, .null, .int 0])), (q_1, .inl (k_2, 4064, .inl (fun _ => 0))), (q_3, .inl (k_2, 4064, .inl (fun _ => 0)))] := hD
  refine W.widen (k := 2) (n := 8128) (by omega) (by omega) ?_
  refine va_putF (D := (dC, dI)) (ci := 6) (v := .ref q_3) (ty := (.array .int)) (C := RX6) (T := TX6) (N := 12) hx hb hts in_c_memory_X6 tyX6 tyX6_ok nmX6 hown hK hP hD hS 0 rfl rfl 9 (by decide) (hts (.fieldLink RX6 15 "OwnedPlaces$Memory" "dropAt" "[I") (wm_c_memory 6 rfl)) (fun _ h9 => h9) rfl hin rfl (by decide +kernel) rfl rfl (Nat.le_of_ble_eq_true rfl) dX6_init_19 (fun H locs hP hD hS => ?_)
  have hP : va_P (dC, dI) vwCl [(m0, .inr (6, [.null, .null, .int 0, .null, .null, .int 0, .int 0, .int 0, .ref q_1, .ref q_3, .null, .int 0])), (q_1, .inl (k_2, 4064, .inl (fun _ => 0))), (q_3, .inl (k_2, 4064, .inl (fun _ => 0)))] H := hP
  have hD : va_D A [(m0, .inr (6, [.null, .null, .int 0, .null, .null, .int 0, .int 0, .int 0, .ref q_1, .ref q_3, .null, .int 0])), (q_1, .inl (k_2, 4064, .inl (fun _ => 0))), (q_3, .inl (k_2, 4064, .inl (fun _ => 0)))] := hD
  refine lv_aload_n hx hb dX6_init_22 rfl (lv_at hl 0 rfl) ?_
  refine lv_sipush (v := 4064) hx hb dX6_init_23 (by decide) ?_
  refine va_newa (atype := .int) (a0 := (4064, .inl (fun _ => 0))) (ty := .int) hx hb (hts (.arrayClass .int) (wm_c_memory 4 rfl)) rfl hK hP hD hS hA (fun _ => rfl) (by decide) (by decide +kernel) (show 4064 * 4 ≤ 536870912 by omega) (show 2 + 1 ≤ 5 by omega) (show 8128 + 4064 ≤ 28384 by omega) dX6_init_26 (fun q_5 k_6 H hK hP hD hS => ?_)
  have hP : va_P (dC, dI) vwCl [(m0, .inr (6, [.null, .null, .int 0, .null, .null, .int 0, .int 0, .int 0, .ref q_1, .ref q_3, .null, .int 0])), (q_1, .inl (k_2, 4064, .inl (fun _ => 0))), (q_3, .inl (k_2, 4064, .inl (fun _ => 0))), (q_5, .inl (k_6, 4064, .inl (fun _ => 0)))] H := hP
  have hD : va_D A [(m0, .inr (6, [.null, .null, .int 0, .null, .null, .int 0, .int 0, .int 0, .ref q_1, .ref q_3, .null, .int 0])), (q_1, .inl (k_2, 4064, .inl (fun _ => 0))), (q_3, .inl (k_2, 4064, .inl (fun _ => 0))), (q_5, .inl (k_6, 4064, .inl (fun _ => 0)))] := hD
  have hK : va_K (dC, dI) vwCl [(k_2, .int), (k_6, .int)] s := hK
  obtain rfl : k_2 = k_6 := kEq_int hK 0 1 rfl rfl
  have hK := hK.sub (tys' := [(k_2, .int)]) [0] rfl
  have hP : va_P (dC, dI) vwCl [(m0, .inr (6, [.null, .null, .int 0, .null, .null, .int 0, .int 0, .int 0, .ref q_1, .ref q_3, .null, .int 0])), (q_1, .inl (k_2, 4064, .inl (fun _ => 0))), (q_3, .inl (k_2, 4064, .inl (fun _ => 0))), (q_5, .inl (k_2, 4064, .inl (fun _ => 0)))] H := hP
  have hD : va_D A [(m0, .inr (6, [.null, .null, .int 0, .null, .null, .int 0, .int 0, .int 0, .ref q_1, .ref q_3, .null, .int 0])), (q_1, .inl (k_2, 4064, .inl (fun _ => 0))), (q_3, .inl (k_2, 4064, .inl (fun _ => 0))), (q_5, .inl (k_2, 4064, .inl (fun _ => 0)))] := hD
  refine W.widen (k := 3) (n := 12192) (by omega) (by omega) ?_
  refine va_putF (D := (dC, dI)) (ci := 6) (v := .ref q_5) (ty := (.array .int)) (C := RX6) (T := TX6) (N := 12) hx hb hts in_c_memory_X6 tyX6 tyX6_ok nmX6 hown hK hP hD hS 0 rfl rfl 10 (by decide) (hts (.fieldLink RX6 18 "OwnedPlaces$Memory" "dropCells" "[I") (wm_c_memory 7 rfl)) (fun _ h9 => h9) rfl hin rfl (by decide +kernel) rfl rfl (Nat.le_of_ble_eq_true rfl) dX6_init_28 (fun H locs hP hD hS => ?_)
  have hP : va_P (dC, dI) vwCl [(m0, .inr (6, [.null, .null, .int 0, .null, .null, .int 0, .int 0, .int 0, .ref q_1, .ref q_3, .ref q_5, .int 0])), (q_1, .inl (k_2, 4064, .inl (fun _ => 0))), (q_3, .inl (k_2, 4064, .inl (fun _ => 0))), (q_5, .inl (k_2, 4064, .inl (fun _ => 0)))] H := hP
  have hD : va_D A [(m0, .inr (6, [.null, .null, .int 0, .null, .null, .int 0, .int 0, .int 0, .ref q_1, .ref q_3, .ref q_5, .int 0])), (q_1, .inl (k_2, 4064, .inl (fun _ => 0))), (q_3, .inl (k_2, 4064, .inl (fun _ => 0))), (q_5, .inl (k_2, 4064, .inl (fun _ => 0)))] := hD
  refine lv_aload_n hx hb dX6_init_31 rfl (lv_at hl 0 rfl) ?_
  refine lv_aload_n hx hb dX6_init_32 rfl (lv_at hl 1 rfl) ?_
  refine va_putF (D := (dC, dI)) (ci := 6) (v := .ref y) (ty := (.object "OwnedPlaces$Types")) (C := RX6) (T := TX6) (N := 12) hx hb hts in_c_memory_X6 tyX6 tyX6_ok nmX6 hown hK hP hD hS 0 rfl rfl 0 (by decide) (hts (.fieldLink RX6 21 "OwnedPlaces$Memory" "types" "LOwnedPlaces$Types;") (wm_c_memory 8 rfl)) (fun _ h9 => h9) rfl hin rfl (by decide +kernel) rfl rfl (Nat.le_of_ble_eq_true rfl) dX6_init_33 (fun H locs hP hD hS => ?_)
  have hP : va_P (dC, dI) vwCl [(m0, .inr (6, [.ref y, .null, .int 0, .null, .null, .int 0, .int 0, .int 0, .ref q_1, .ref q_3, .ref q_5, .int 0])), (q_1, .inl (k_2, 4064, .inl (fun _ => 0))), (q_3, .inl (k_2, 4064, .inl (fun _ => 0))), (q_5, .inl (k_2, 4064, .inl (fun _ => 0)))] H := hP
  have hD : va_D A [(m0, .inr (6, [.ref y, .null, .int 0, .null, .null, .int 0, .int 0, .int 0, .ref q_1, .ref q_3, .ref q_5, .int 0])), (q_1, .inl (k_2, 4064, .inl (fun _ => 0))), (q_3, .inl (k_2, 4064, .inl (fun _ => 0))), (q_5, .inl (k_2, 4064, .inl (fun _ => 0)))] := hD
  refine lv_aload_n hx hb dX6_init_36 rfl (lv_at hl 0 rfl) ?_
  refine lv_aload_n hx hb dX6_init_37 rfl (lv_at hl 2 rfl) ?_
  refine va_putF (D := (dC, dI)) (ci := 6) (v := .ref qw) (ty := (.object "OwnedPlaces$Queue")) (C := RX6) (T := TX6) (N := 12) hx hb hts in_c_memory_X6 tyX6 tyX6_ok nmX6 hown hK hP hD hS 0 rfl rfl 1 (by decide) (hts (.fieldLink RX6 25 "OwnedPlaces$Memory" "waiting" "LOwnedPlaces$Queue;") (wm_c_memory 9 rfl)) (fun _ h9 => h9) rfl hin rfl (by decide +kernel) rfl rfl (Nat.le_of_ble_eq_true rfl) dX6_init_38 (fun H locs hP hD hS => ?_)
  have hP : va_P (dC, dI) vwCl [(m0, .inr (6, [.ref y, .ref qw, .int 0, .null, .null, .int 0, .int 0, .int 0, .ref q_1, .ref q_3, .ref q_5, .int 0])), (q_1, .inl (k_2, 4064, .inl (fun _ => 0))), (q_3, .inl (k_2, 4064, .inl (fun _ => 0))), (q_5, .inl (k_2, 4064, .inl (fun _ => 0)))] H := hP
  have hD : va_D A [(m0, .inr (6, [.ref y, .ref qw, .int 0, .null, .null, .int 0, .int 0, .int 0, .ref q_1, .ref q_3, .ref q_5, .int 0])), (q_1, .inl (k_2, 4064, .inl (fun _ => 0))), (q_3, .inl (k_2, 4064, .inl (fun _ => 0))), (q_5, .inl (k_2, 4064, .inl (fun _ => 0)))] := hD
  refine lv_aload_n hx hb dX6_init_41 rfl (lv_at hl 0 rfl) ?_
  refine lv_iload_n hx hb dX6_init_42 rfl (lv_at hl 3 rfl) ?_
  refine va_putF (D := (dC, dI)) (ci := 6) (v := .int (nI k)) (ty := .int) (C := RX6) (T := TX6) (N := 12) hx hb hts in_c_memory_X6 tyX6 tyX6_ok nmX6 hown hK hP hD hS 0 rfl rfl 2 (by decide) (hts (.fieldLink RX6 29 "OwnedPlaces$Memory" "heap" "I") (wm_c_memory 10 rfl)) (fun _ h9 => h9) rfl hin rfl (by decide +kernel) rfl rfl (Nat.le_of_ble_eq_true rfl) dX6_init_43 (fun H locs hP hD hS => ?_)
  have hP : va_P (dC, dI) vwCl [(m0, .inr (6, [.ref y, .ref qw, .int (nI k), .null, .null, .int 0, .int 0, .int 0, .ref q_1, .ref q_3, .ref q_5, .int 0])), (q_1, .inl (k_2, 4064, .inl (fun _ => 0))), (q_3, .inl (k_2, 4064, .inl (fun _ => 0))), (q_5, .inl (k_2, 4064, .inl (fun _ => 0)))] H := hP
  have hD : va_D A [(m0, .inr (6, [.ref y, .ref qw, .int (nI k), .null, .null, .int 0, .int 0, .int 0, .ref q_1, .ref q_3, .ref q_5, .int 0])), (q_1, .inl (k_2, 4064, .inl (fun _ => 0))), (q_3, .inl (k_2, 4064, .inl (fun _ => 0))), (q_5, .inl (k_2, 4064, .inl (fun _ => 0)))] := hD
  refine lv_aload_n hx hb dX6_init_46 rfl (lv_at hl 0 rfl) ?_
  refine lv_iload_n hx hb dX6_init_47 rfl (lv_at hl 3 rfl) ?_
  refine lv_sipush (v := 8192) hx hb dX6_init_48 (by decide) ?_
  refine lv_iadd hx hb dX6_init_51 ?_
  refine lv_topi (fun f_7 ef_7 => ?_)
  obtain rfl : f_7 = nI (k + 8192) := ef_7.trans (nI_add k 8192)
  refine va_newa (atype := .long) (a0 := (k + 8192, .inr (.inl (fun _ => 0)))) (ty := .long) hx hb (hts (.arrayClass .long) (wm_c_memory 11 rfl)) rfl hK hP hD hS hA (fun _ => rfl) (nI_pos (by omega)) (nI_clamp (by omega)) (by show (k + 8192) * 8 ≤ 536870912; omega) (show 3 + 1 ≤ 5 by omega) (show 12192 + (k + 8192) ≤ 28384 by omega) dX6_init_52 (fun q_8 k_9 H hK hP hD hS => ?_)
  have hP : va_P (dC, dI) vwCl [(m0, .inr (6, [.ref y, .ref qw, .int (nI k), .null, .null, .int 0, .int 0, .int 0, .ref q_1, .ref q_3, .ref q_5, .int 0])), (q_1, .inl (k_2, 4064, .inl (fun _ => 0))), (q_3, .inl (k_2, 4064, .inl (fun _ => 0))), (q_5, .inl (k_2, 4064, .inl (fun _ => 0))), (q_8, .inl (k_9, (k + 8192), .inr (.inl (fun _ => 0))))] H := hP
  have hD : va_D A [(m0, .inr (6, [.ref y, .ref qw, .int (nI k), .null, .null, .int 0, .int 0, .int 0, .ref q_1, .ref q_3, .ref q_5, .int 0])), (q_1, .inl (k_2, 4064, .inl (fun _ => 0))), (q_3, .inl (k_2, 4064, .inl (fun _ => 0))), (q_5, .inl (k_2, 4064, .inl (fun _ => 0))), (q_8, .inl (k_9, (k + 8192), .inr (.inl (fun _ => 0))))] := hD
  have hK : va_K (dC, dI) vwCl [(k_2, .int), (k_9, .long)] s := hK
  refine W.widen (k := 4) (n := 24384) (by omega) (by omega) ?_
  refine va_put (D := (dC, dI)) (ci := 6) (v := .ref q_8) (ty := (.array .long)) (C := RX6) (T := TX6) (N := 12) hx hb hts in_c_memory_X6 tyX6 tyX6_ok nmX6 hown hK hP hD hS 0 rfl rfl 3 (by decide) (hts (.fieldLink RX6 33 "OwnedPlaces$Memory" "cells" "[J") (wm_c_memory 12 rfl)) (fun _ h9 => h9) rfl (by decide +kernel) rfl rfl (Nat.le_of_ble_eq_true rfl) dX6_init_54 (fun H locs hP hD hS => ?_)
  have hP : va_P (dC, dI) vwCl [(m0, .inr (6, [.ref y, .ref qw, .int (nI k), .ref q_8, .null, .int 0, .int 0, .int 0, .ref q_1, .ref q_3, .ref q_5, .int 0])), (q_1, .inl (k_2, 4064, .inl (fun _ => 0))), (q_3, .inl (k_2, 4064, .inl (fun _ => 0))), (q_5, .inl (k_2, 4064, .inl (fun _ => 0))), (q_8, .inl (k_9, (k + 8192), .inr (.inl (fun _ => 0))))] H := hP
  have hD : va_D A [(m0, .inr (6, [.ref y, .ref qw, .int (nI k), .ref q_8, .null, .int 0, .int 0, .int 0, .ref q_1, .ref q_3, .ref q_5, .int 0])), (q_1, .inl (k_2, 4064, .inl (fun _ => 0))), (q_3, .inl (k_2, 4064, .inl (fun _ => 0))), (q_5, .inl (k_2, 4064, .inl (fun _ => 0))), (q_8, .inl (k_9, (k + 8192), .inr (.inl (fun _ => 0))))] := hD
  refine lv_aload_n hx hb dX6_init_57 rfl (lv_at hl 0 rfl) ?_
  refine lv_iload_n hx hb dX6_init_58 rfl (lv_at hl 3 rfl) ?_
  refine va_newa (atype := .byte) (a0 := (k, .inl (fun _ => 0))) (ty := .byte) hx hb (hts (.arrayClass .byte) (wm_c_memory 13 rfl)) rfl hK hP hD hS hA (fun _ => rfl) (nI_pos (by omega)) (nI_clamp (by omega)) (by show k * 1 ≤ 536870912; omega) (show 4 + 1 ≤ 5 by omega) (show 24384 + k ≤ 28384 by omega) dX6_init_59 (fun q_10 k_11 H hK hP hD hS => ?_)
  have hP : va_P (dC, dI) vwCl [(m0, .inr (6, [.ref y, .ref qw, .int (nI k), .ref q_8, .null, .int 0, .int 0, .int 0, .ref q_1, .ref q_3, .ref q_5, .int 0])), (q_1, .inl (k_2, 4064, .inl (fun _ => 0))), (q_3, .inl (k_2, 4064, .inl (fun _ => 0))), (q_5, .inl (k_2, 4064, .inl (fun _ => 0))), (q_8, .inl (k_9, (k + 8192), .inr (.inl (fun _ => 0)))), (q_10, .inl (k_11, k, .inl (fun _ => 0)))] H := hP
  have hD : va_D A [(m0, .inr (6, [.ref y, .ref qw, .int (nI k), .ref q_8, .null, .int 0, .int 0, .int 0, .ref q_1, .ref q_3, .ref q_5, .int 0])), (q_1, .inl (k_2, 4064, .inl (fun _ => 0))), (q_3, .inl (k_2, 4064, .inl (fun _ => 0))), (q_5, .inl (k_2, 4064, .inl (fun _ => 0))), (q_8, .inl (k_9, (k + 8192), .inr (.inl (fun _ => 0)))), (q_10, .inl (k_11, k, .inl (fun _ => 0)))] := hD
  have hK : va_K (dC, dI) vwCl [(k_2, .int), (k_9, .long), (k_11, .byte)] s := hK
  refine W.widen (k := 5) (n := 28384) (by omega) (by omega) ?_
  refine va_putF (D := (dC, dI)) (ci := 6) (v := .ref q_10) (ty := (.array .byte)) (C := RX6) (T := TX6) (N := 12) hx hb hts in_c_memory_X6 tyX6 tyX6_ok nmX6 hown hK hP hD hS 0 rfl rfl 4 (by decide) (hts (.fieldLink RX6 37 "OwnedPlaces$Memory" "taken" "[B") (wm_c_memory 14 rfl)) (fun _ h9 => h9) rfl hin rfl (by decide +kernel) rfl rfl (Nat.le_of_ble_eq_true rfl) dX6_init_61 (fun H locs hP hD hS => ?_)
  have hP : va_P (dC, dI) vwCl [(m0, .inr (6, [.ref y, .ref qw, .int (nI k), .ref q_8, .ref q_10, .int 0, .int 0, .int 0, .ref q_1, .ref q_3, .ref q_5, .int 0])), (q_1, .inl (k_2, 4064, .inl (fun _ => 0))), (q_3, .inl (k_2, 4064, .inl (fun _ => 0))), (q_5, .inl (k_2, 4064, .inl (fun _ => 0))), (q_8, .inl (k_9, (k + 8192), .inr (.inl (fun _ => 0)))), (q_10, .inl (k_11, k, .inl (fun _ => 0)))] H := hP
  have hD : va_D A [(m0, .inr (6, [.ref y, .ref qw, .int (nI k), .ref q_8, .ref q_10, .int 0, .int 0, .int 0, .ref q_1, .ref q_3, .ref q_5, .int 0])), (q_1, .inl (k_2, 4064, .inl (fun _ => 0))), (q_3, .inl (k_2, 4064, .inl (fun _ => 0))), (q_5, .inl (k_2, 4064, .inl (fun _ => 0))), (q_8, .inl (k_9, (k + 8192), .inr (.inl (fun _ => 0)))), (q_10, .inl (k_11, k, .inl (fun _ => 0)))] := hD
  have hP9 := hP.sub (ws' := [(m0, .inr (6, [.ref y, .ref qw, .int (nI k), .ref q_8, .ref q_10, .int 0, .int 0, .int 0, .ref q_1, .ref q_3, .ref q_5, .int 0])), (q_10, .inl (k_11, k, .inl (fun _ => 0)))]) [0, 5] rfl
  have hD9 := hD.sub (ws' := [(m0, .inr (6, [.ref y, .ref qw, .int (nI k), .ref q_8, .ref q_10, .int 0, .int 0, .int 0, .ref q_1, .ref q_3, .ref q_5, .int 0])), (q_10, .inl (k_11, k, .inl (fun _ => 0)))]) [0, 5] (by decide) rfl
  have hK9 := hK.sub (tys' := [(k_11, .byte)]) [2] rfl
  refine W.widen (k := 5) (n := 28384) (by omega) (by omega) ?_
  exact W.vret hx hb hr (fun tS ht hW => ⟨⟨(), rfl, trivial, q_8, q_10, q_1, q_3, q_5, k_11, by rw [ht]; exact hP9, va_K.moved hW.alike hK9, hD9⟩, hS.F ht⟩) hS.2.2 dX6_init_64
end
section
def wf_c_types : List Cond := [.code yX10_init cX10_init 1 none, .methodLink RX10 3 objectInit, .instanceMethod objectInit, .code objectInit ⟨#[0xb1]⟩ 1 none, .arrayClass .int, .fieldLink RX10 9 "OwnedPlaces$Types" "kind" "[I", .fieldLink RX10 15 "OwnedPlaces$Types" "of" "[I", .fieldLink RX10 18 "OwnedPlaces$Types" "size" "[I", .arrayClass .boolean, .fieldLink RX10 21 "OwnedPlaces$Types" "drops" "[Z", .fieldLink RX10 25 "OwnedPlaces$Types" "boxes" "[I", .fieldLink RX10 28 "OwnedPlaces$Types" "shared" "[I", .fieldLink RX10 31 "OwnedPlaces$Types" "unique" "[I", .fieldLink RX10 34 "OwnedPlaces$Types" "shapeToken" "[I", .fieldLink RX10 37 "OwnedPlaces$Types" "variants" "[I", .fieldLink RX10 40 "OwnedPlaces$Types" "variantName" "[I", .fieldLink RX10 43 "OwnedPlaces$Types" "parts" "[I", .fieldLink RX10 46 "OwnedPlaces$Types" "partName" "[I", .fieldLink RX10 49 "OwnedPlaces$Types" "partType" "[I", .fieldLink RX10 52 "OwnedPlaces$Types" "partOffset" "[I"]
def wp_c_types : List Cond := wf_c_types ++ (wsX100 ++ [])
theorem in_c_types_X10 : ∀ w ∈ wsX100, w ∈ wp_c_types := fun w h => List.mem_append_right _ (List.mem_append_left _ h)
theorem wg_c_types : wf_c_types.all goodWord = true := by decide +kernel
theorem wm_c_types (k : Nat) {w : Cond} (h : wp_c_types[k]? = some w) : w ∈ wp_c_types := List.mem_of_getElem? h
set_option maxHeartbeats 4000000 in
set_option maxRecDepth 100000 in
theorem c_types (l : Launch) (dC : Nat → ClassId) (dI : Nat → Nat → Nat) (y : Nat) (sz : Nat) : Met l yX10_init wp_c_types ({ frames := 1, cells := 14, slots := 35020, locals := 12 }) (va_Pc [.ref y] (fun U => U.heap.size = sz ∧ va_P (dC, dI) vwCl [(y, .inr (10, [.null, .null, .null, .null, .null, .null, .null, .int 0, .int 0, .null, .null, .null, .null, .null, .null, .null]))] U.heap ∧ va_K (dC, dI) vwCl [] U ∧ va_D (fun _ => True) [(y, .inr (10, [.null, .null, .null, .null, .null, .null, .null, .int 0, .int 0, .null, .null, .null, .null, .null, .null, .null]))])) (va_Qv (fun _ : Unit => True) (fun (_ : Unit) (t : State) => ∃ (yk : Nat) (yo : Nat) (yz : Nat) (yd : Nat) (yb : Nat) (ys : Nat) (yu : Nat) (y1 : Nat) (y2 : Nat) (y3 : Nat) (y4 : Nat) (y5 : Nat) (y6 : Nat) (y7 : Nat) (kI : ClassId) (kZ : ClassId), va_P (dC, dI) vwCl [(y, .inr (10, [.ref yk, .ref yo, .ref yz, .ref yd, .ref yb, .ref ys, .ref yu, .int 0, .int 0, .ref y1, .ref y2, .ref y3, .ref y4, .ref y5, .ref y6, .ref y7])), (yk, .inl (kI, 3040, .inl (fun _ => 0))), (yo, .inl (kI, 3040, .inl (fun _ => 0))), (yz, .inl (kI, 3040, .inl (fun _ => 0))), (yd, .inl (kZ, 3040, .inl (fun _ => 0))), (yb, .inl (kI, 3040, .inl (fun _ => 0))), (ys, .inl (kI, 3040, .inl (fun _ => 0))), (yu, .inl (kI, 3040, .inl (fun _ => 0)))] t.heap ∧ va_K (dC, dI) vwCl [(kI, .int), (kZ, .boolean)] t ∧ va_D (va_A [(y, .inr (10, [.null, .null, .null, .null, .null, .null, .null, .int 0, .int 0, .null, .null, .null, .null, .null, .null, .null]))] sz) [(y, .inr (10, [.ref yk, .ref yo, .ref yz, .ref yd, .ref yb, .ref ys, .ref yu, .int 0, .int 0, .ref y1, .ref y2, .ref y3, .ref y4, .ref y5, .ref y6, .ref y7])), (yk, .inl (kI, 3040, .inl (fun _ => 0))), (yo, .inl (kI, 3040, .inl (fun _ => 0))), (yz, .inl (kI, 3040, .inl (fun _ => 0))), (yd, .inl (kZ, 3040, .inl (fun _ => 0))), (yb, .inl (kI, 3040, .inl (fun _ => 0))), (ys, .inl (kI, 3040, .inl (fun _ => 0))), (yu, .inl (kI, 3040, .inl (fun _ => 0)))]) (va_A [(y, .inr (10, [.null, .null, .null, .null, .null, .null, .null, .int 0, .int 0, .null, .null, .null, .null, .null, .null, .null]))] sz)) 14 35020 (va_A [(y, .inr (10, [.null, .null, .null, .null, .null, .null, .null, .int 0, .int 0, .null, .null, .null, .null, .null, .null, .null]))] sz) := by
  refine Met.ofW (cc := cX10_init) (maxL := 1) (ret := none) (by decide) rfl ?_
  intro p e s m args below meth c s₁ B hml hv
  obtain ⟨rfl, hsz, hP, hK, hD0⟩ := hv
  have hx := B.exec
  have hb := B.bytes
  have hr := B.returns
  have hts := atoms_spec (ws := wp_c_types) B.pre
  have hown : s.vm.findClass RX10 = some m.cls := findClass_of_methodNamed B.named
  have hlocks := B.notSynchronized
  have hin : meth.name = "<init>" := (name_of_methodNamed B.named B.method).1
  subst hsz
  have hD := hD0.self (sz := s.heap.size)
  generalize hAe : va_A [(y, .inr (10, [.null, .null, .null, .null, .null, .null, .null, .int 0, .int 0, .null, .null, .null, .null, .null, .null, .null]))] s.heap.size = A at hD ⊢
  have hA : ∀ q : Nat, s.heap.size ≤ q → A q := fun q h => by rw [← hAe]; exact Or.inr h
  have hS : va_S A s.heap s.heap [] := va_S.rf
  have hP : va_P (dC, dI) vwCl [(y, .inr (10, [.null, .null, .null, .null, .null, .null, .null, .int 0, .int 0, .null, .null, .null, .null, .null, .null, .null]))] s.heap := hP
  have hl := lv_entry ([.ref y]) (n := 1) (Nat.le_of_ble_eq_true rfl)
  rw [lg_entry_eq]
  generalize (lg_sl ([.ref y]) ++ List.replicate (1 - (lg_sl ([.ref y])).length) Slot.unset).toArray = ls at hl ⊢
  have hl : lv_has ls 1 [(0, .ref y)] := hl
  refine lv_aload_n hx hb dX10_init_0 rfl (lv_at hl 0 rfl) ?_
  refine W.objInit hx hb hown (hts (.methodLink RX10 3 objectInit) (wm_c_types 1 rfl)) (hts (.instanceMethod objectInit) (wm_c_types 2 rfl)) (hts (.code objectInit ⟨#[0xb1]⟩ 1 none) (wm_c_types 3 rfl)) rfl (by rw [hml]; exact hl.1) rfl dX10_init_1 (Nat.le_of_ble_eq_true rfl) (Nat.le_of_ble_eq_true rfl) ?_
  refine W.eq (g2 := F0 m 4 ls []) rfl ?_
  refine lv_aload_n hx hb dX10_init_4 rfl (lv_at hl 0 rfl) ?_
  refine lv_sipush (v := 3040) hx hb dX10_init_5 (by decide) ?_
  refine va_newa (atype := .int) (a0 := (3040, .inl (fun _ => 0))) (ty := .int) hx hb (hts (.arrayClass .int) (wm_c_types 4 rfl)) rfl hK hP hD hS hA (fun _ => rfl) (by decide) (by decide +kernel) (show 3040 * 4 ≤ 536870912 by omega) (show 0 + 1 ≤ 14 by omega) (show 0 + 3040 ≤ 35020 by omega) dX10_init_8 (fun q_1 k_2 H hK hP hD hS => ?_)
  have hP : va_P (dC, dI) vwCl [(y, .inr (10, [.null, .null, .null, .null, .null, .null, .null, .int 0, .int 0, .null, .null, .null, .null, .null, .null, .null])), (q_1, .inl (k_2, 3040, .inl (fun _ => 0)))] H := hP
  have hD : va_D A [(y, .inr (10, [.null, .null, .null, .null, .null, .null, .null, .int 0, .int 0, .null, .null, .null, .null, .null, .null, .null])), (q_1, .inl (k_2, 3040, .inl (fun _ => 0)))] := hD
  have hK : va_K (dC, dI) vwCl [(k_2, .int)] s := hK
  refine W.widen (k := 1) (n := 3040) (by omega) (by omega) ?_
  refine va_putF (D := (dC, dI)) (ci := 10) (v := .ref q_1) (ty := (.array .int)) (C := RX10) (T := TX10) (N := 16) hx hb hts in_c_types_X10 tyX10 tyX10_ok nmX10 hown hK hP hD hS 0 rfl rfl 0 (by decide) (hts (.fieldLink RX10 9 "OwnedPlaces$Types" "kind" "[I") (wm_c_types 5 rfl)) (fun _ h9 => h9) rfl hin rfl (by decide +kernel) rfl rfl (Nat.le_of_ble_eq_true rfl) dX10_init_10 (fun H locs hP hD hS => ?_)
  have hP : va_P (dC, dI) vwCl [(y, .inr (10, [.ref q_1, .null, .null, .null, .null, .null, .null, .int 0, .int 0, .null, .null, .null, .null, .null, .null, .null])), (q_1, .inl (k_2, 3040, .inl (fun _ => 0)))] H := hP
  have hD : va_D A [(y, .inr (10, [.ref q_1, .null, .null, .null, .null, .null, .null, .int 0, .int 0, .null, .null, .null, .null, .null, .null, .null])), (q_1, .inl (k_2, 3040, .inl (fun _ => 0)))] := hD
  refine lv_aload_n hx hb dX10_init_13 rfl (lv_at hl 0 rfl) ?_
  refine lv_sipush (v := 3040) hx hb dX10_init_14 (by decide) ?_
  refine va_newa (atype := .int) (a0 := (3040, .inl (fun _ => 0))) (ty := .int) hx hb (hts (.arrayClass .int) (wm_c_types 4 rfl)) rfl hK hP hD hS hA (fun _ => rfl) (by decide) (by decide +kernel) (show 3040 * 4 ≤ 536870912 by omega) (show 1 + 1 ≤ 14 by omega) (show 3040 + 3040 ≤ 35020 by omega) dX10_init_17 (fun q_3 k_4 H hK hP hD hS => ?_)
  have hP : va_P (dC, dI) vwCl [(y, .inr (10, [.ref q_1, .null, .null, .null, .null, .null, .null, .int 0, .int 0, .null, .null, .null, .null, .null, .null, .null])), (q_1, .inl (k_2, 3040, .inl (fun _ => 0))), (q_3, .inl (k_4, 3040, .inl (fun _ => 0)))] H := hP
  have hD : va_D A [(y, .inr (10, [.ref q_1, .null, .null, .null, .null, .null, .null, .int 0, .int 0, .null, .null, .null, .null, .null, .null, .null])), (q_1, .inl (k_2, 3040, .inl (fun _ => 0))), (q_3, .inl (k_4, 3040, .inl (fun _ => 0)))] := hD
  have hK : va_K (dC, dI) vwCl [(k_2, .int), (k_4, .int)] s := hK
  obtain rfl : k_2 = k_4 := kEq_int hK 0 1 rfl rfl
  have hK := hK.sub (tys' := [(k_2, .int)]) [0] rfl
  have hP : va_P (dC, dI) vwCl [(y, .inr (10, [.ref q_1, .null, .null, .null, .null, .null, .null, .int 0, .int 0, .null, .null, .null, .null, .null, .null, .null])), (q_1, .inl (k_2, 3040, .inl (fun _ => 0))), (q_3, .inl (k_2, 3040, .inl (fun _ => 0)))] H := hP
  have hD : va_D A [(y, .inr (10, [.ref q_1, .null, .null, .null, .null, .null, .null, .int 0, .int 0, .null, .null, .null, .null, .null, .null, .null])), (q_1, .inl (k_2, 3040, .inl (fun _ => 0))), (q_3, .inl (k_2, 3040, .inl (fun _ => 0)))] := hD
  refine W.widen (k := 2) (n := 6080) (by omega) (by omega) ?_
  refine va_putF (D := (dC, dI)) (ci := 10) (v := .ref q_3) (ty := (.array .int)) (C := RX10) (T := TX10) (N := 16) hx hb hts in_c_types_X10 tyX10 tyX10_ok nmX10 hown hK hP hD hS 0 rfl rfl 1 (by decide) (hts (.fieldLink RX10 15 "OwnedPlaces$Types" "of" "[I") (wm_c_types 6 rfl)) (fun _ h9 => h9) rfl hin rfl (by decide +kernel) rfl rfl (Nat.le_of_ble_eq_true rfl) dX10_init_19 (fun H locs hP hD hS => ?_)
  have hP : va_P (dC, dI) vwCl [(y, .inr (10, [.ref q_1, .ref q_3, .null, .null, .null, .null, .null, .int 0, .int 0, .null, .null, .null, .null, .null, .null, .null])), (q_1, .inl (k_2, 3040, .inl (fun _ => 0))), (q_3, .inl (k_2, 3040, .inl (fun _ => 0)))] H := hP
  have hD : va_D A [(y, .inr (10, [.ref q_1, .ref q_3, .null, .null, .null, .null, .null, .int 0, .int 0, .null, .null, .null, .null, .null, .null, .null])), (q_1, .inl (k_2, 3040, .inl (fun _ => 0))), (q_3, .inl (k_2, 3040, .inl (fun _ => 0)))] := hD
  refine lv_aload_n hx hb dX10_init_22 rfl (lv_at hl 0 rfl) ?_
  refine lv_sipush (v := 3040) hx hb dX10_init_23 (by decide) ?_
  refine va_newa (atype := .int) (a0 := (3040, .inl (fun _ => 0))) (ty := .int) hx hb (hts (.arrayClass .int) (wm_c_types 4 rfl)) rfl hK hP hD hS hA (fun _ => rfl) (by decide) (by decide +kernel) (show 3040 * 4 ≤ 536870912 by omega) (show 2 + 1 ≤ 14 by omega) (show 6080 + 3040 ≤ 35020 by omega) dX10_init_26 (fun q_5 k_6 H hK hP hD hS => ?_)
  have hP : va_P (dC, dI) vwCl [(y, .inr (10, [.ref q_1, .ref q_3, .null, .null, .null, .null, .null, .int 0, .int 0, .null, .null, .null, .null, .null, .null, .null])), (q_1, .inl (k_2, 3040, .inl (fun _ => 0))), (q_3, .inl (k_2, 3040, .inl (fun _ => 0))), (q_5, .inl (k_6, 3040, .inl (fun _ => 0)))] H := hP
  have hD : va_D A [(y, .inr (10, [.ref q_1, .ref q_3, .null, .null, .null, .null, .null, .int 0, .int 0, .null, .null, .null, .null, .null, .null, .null])), (q_1, .inl (k_2, 3040, .inl (fun _ => 0))), (q_3, .inl (k_2, 3040, .inl (fun _ => 0))), (q_5, .inl (k_6, 3040, .inl (fun _ => 0)))] := hD
  have hK : va_K (dC, dI) vwCl [(k_2, .int), (k_6, .int)] s := hK
  obtain rfl : k_2 = k_6 := kEq_int hK 0 1 rfl rfl
  have hK := hK.sub (tys' := [(k_2, .int)]) [0] rfl
  have hP : va_P (dC, dI) vwCl [(y, .inr (10, [.ref q_1, .ref q_3, .null, .null, .null, .null, .null, .int 0, .int 0, .null, .null, .null, .null, .null, .null, .null])), (q_1, .inl (k_2, 3040, .inl (fun _ => 0))), (q_3, .inl (k_2, 3040, .inl (fun _ => 0))), (q_5, .inl (k_2, 3040, .inl (fun _ => 0)))] H := hP
  have hD : va_D A [(y, .inr (10, [.ref q_1, .ref q_3, .null, .null, .null, .null, .null, .int 0, .int 0, .null, .null, .null, .null, .null, .null, .null])), (q_1, .inl (k_2, 3040, .inl (fun _ => 0))), (q_3, .inl (k_2, 3040, .inl (fun _ => 0))), (q_5, .inl (k_2, 3040, .inl (fun _ => 0)))] := hD
  refine W.widen (k := 3) (n := 9120) (by omega) (by omega) ?_
  refine va_putF (D := (dC, dI)) (ci := 10) (v := .ref q_5) (ty := (.array .int)) (C := RX10) (T := TX10) (N := 16) hx hb hts in_c_types_X10 tyX10 tyX10_ok nmX10 hown hK hP hD hS 0 rfl rfl 2 (by decide) (hts (.fieldLink RX10 18 "OwnedPlaces$Types" "size" "[I") (wm_c_types 7 rfl)) (fun _ h9 => h9) rfl hin rfl (by decide +kernel) rfl rfl (Nat.le_of_ble_eq_true rfl) dX10_init_28 (fun H locs hP hD hS => ?_)
  have hP : va_P (dC, dI) vwCl [(y, .inr (10, [.ref q_1, .ref q_3, .ref q_5, .null, .null, .null, .null, .int 0, .int 0, .null, .null, .null, .null, .null, .null, .null])), (q_1, .inl (k_2, 3040, .inl (fun _ => 0))), (q_3, .inl (k_2, 3040, .inl (fun _ => 0))), (q_5, .inl (k_2, 3040, .inl (fun _ => 0)))] H := hP
  have hD : va_D A [(y, .inr (10, [.ref q_1, .ref q_3, .ref q_5, .null, .null, .null, .null, .int 0, .int 0, .null, .null, .null, .null, .null, .null, .null])), (q_1, .inl (k_2, 3040, .inl (fun _ => 0))), (q_3, .inl (k_2, 3040, .inl (fun _ => 0))), (q_5, .inl (k_2, 3040, .inl (fun _ => 0)))] := hD
  refine lv_aload_n hx hb dX10_init_31 rfl (lv_at hl 0 rfl) ?_
  refine lv_sipush (v := 3040) hx hb dX10_init_32 (by decide) ?_
  refine va_newa (atype := .boolean) (a0 := (3040, .inl (fun _ => 0))) (ty := .boolean) hx hb (hts (.arrayClass .boolean) (wm_c_types 8 rfl)) rfl hK hP hD hS hA (fun _ => rfl) (by decide) (by decide +kernel) (show 3040 * 1 ≤ 536870912 by omega) (show 3 + 1 ≤ 14 by omega) (show 9120 + 3040 ≤ 35020 by omega) dX10_init_35 (fun q_7 k_8 H hK hP hD hS => ?_)
  have hP : va_P (dC, dI) vwCl [(y, .inr (10, [.ref q_1, .ref q_3, .ref q_5, .null, .null, .null, .null, .int 0, .int 0, .null, .null, .null, .null, .null, .null, .null])), (q_1, .inl (k_2, 3040, .inl (fun _ => 0))), (q_3, .inl (k_2, 3040, .inl (fun _ => 0))), (q_5, .inl (k_2, 3040, .inl (fun _ => 0))), (q_7, .inl (k_8, 3040, .inl (fun _ => 0)))] H := hP
  have hD : va_D A [(y, .inr (10, [.ref q_1, .ref q_3, .ref q_5, .null, .null, .null, .null, .int 0, .int 0, .null, .null, .null, .null, .null, .null, .null])), (q_1, .inl (k_2, 3040, .inl (fun _ => 0))), (q_3, .inl (k_2, 3040, .inl (fun _ => 0))), (q_5, .inl (k_2, 3040, .inl (fun _ => 0))), (q_7, .inl (k_8, 3040, .inl (fun _ => 0)))] := hD
  have hK : va_K (dC, dI) vwCl [(k_2, .int), (k_8, .boolean)] s := hK
  refine W.widen (k := 4) (n := 12160) (by omega) (by omega) ?_
  refine va_putF (D := (dC, dI)) (ci := 10) (v := .ref q_7) (ty := (.array .boolean)) (C := RX10) (T := TX10) (N := 16) hx hb hts in_c_types_X10 tyX10 tyX10_ok nmX10 hown hK hP hD hS 0 rfl rfl 3 (by decide) (hts (.fieldLink RX10 21 "OwnedPlaces$Types" "drops" "[Z") (wm_c_types 9 rfl)) (fun _ h9 => h9) rfl hin rfl (by decide +kernel) rfl rfl (Nat.le_of_ble_eq_true rfl) dX10_init_37 (fun H locs hP hD hS => ?_)
  have hP : va_P (dC, dI) vwCl [(y, .inr (10, [.ref q_1, .ref q_3, .ref q_5, .ref q_7, .null, .null, .null, .int 0, .int 0, .null, .null, .null, .null, .null, .null, .null])), (q_1, .inl (k_2, 3040, .inl (fun _ => 0))), (q_3, .inl (k_2, 3040, .inl (fun _ => 0))), (q_5, .inl (k_2, 3040, .inl (fun _ => 0))), (q_7, .inl (k_8, 3040, .inl (fun _ => 0)))] H := hP
  have hD : va_D A [(y, .inr (10, [.ref q_1, .ref q_3, .ref q_5, .ref q_7, .null, .null, .null, .int 0, .int 0, .null, .null, .null, .null, .null, .null, .null])), (q_1, .inl (k_2, 3040, .inl (fun _ => 0))), (q_3, .inl (k_2, 3040, .inl (fun _ => 0))), (q_5, .inl (k_2, 3040, .inl (fun _ => 0))), (q_7, .inl (k_8, 3040, .inl (fun _ => 0)))] := hD
  refine lv_aload_n hx hb dX10_init_40 rfl (lv_at hl 0 rfl) ?_
  refine lv_sipush (v := 3040) hx hb dX10_init_41 (by decide) ?_
  refine va_newa (atype := .int) (a0 := (3040, .inl (fun _ => 0))) (ty := .int) hx hb (hts (.arrayClass .int) (wm_c_types 4 rfl)) rfl hK hP hD hS hA (fun _ => rfl) (by decide) (by decide +kernel) (show 3040 * 4 ≤ 536870912 by omega) (show 4 + 1 ≤ 14 by omega) (show 12160 + 3040 ≤ 35020 by omega) dX10_init_44 (fun q_9 k_10 H hK hP hD hS => ?_)
  have hP : va_P (dC, dI) vwCl [(y, .inr (10, [.ref q_1, .ref q_3, .ref q_5, .ref q_7, .null, .null, .null, .int 0, .int 0, .null, .null, .null, .null, .null, .null, .null])), (q_1, .inl (k_2, 3040, .inl (fun _ => 0))), (q_3, .inl (k_2, 3040, .inl (fun _ => 0))), (q_5, .inl (k_2, 3040, .inl (fun _ => 0))), (q_7, .inl (k_8, 3040, .inl (fun _ => 0))), (q_9, .inl (k_10, 3040, .inl (fun _ => 0)))] H := hP
  have hD : va_D A [(y, .inr (10, [.ref q_1, .ref q_3, .ref q_5, .ref q_7, .null, .null, .null, .int 0, .int 0, .null, .null, .null, .null, .null, .null, .null])), (q_1, .inl (k_2, 3040, .inl (fun _ => 0))), (q_3, .inl (k_2, 3040, .inl (fun _ => 0))), (q_5, .inl (k_2, 3040, .inl (fun _ => 0))), (q_7, .inl (k_8, 3040, .inl (fun _ => 0))), (q_9, .inl (k_10, 3040, .inl (fun _ => 0)))] := hD
  have hK : va_K (dC, dI) vwCl [(k_2, .int), (k_8, .boolean), (k_10, .int)] s := hK
  obtain rfl : k_2 = k_10 := kEq_int hK 0 2 rfl rfl
  have hK := hK.sub (tys' := [(k_2, .int), (k_8, .boolean)]) [0, 1] rfl
  have hP : va_P (dC, dI) vwCl [(y, .inr (10, [.ref q_1, .ref q_3, .ref q_5, .ref q_7, .null, .null, .null, .int 0, .int 0, .null, .null, .null, .null, .null, .null, .null])), (q_1, .inl (k_2, 3040, .inl (fun _ => 0))), (q_3, .inl (k_2, 3040, .inl (fun _ => 0))), (q_5, .inl (k_2, 3040, .inl (fun _ => 0))), (q_7, .inl (k_8, 3040, .inl (fun _ => 0))), (q_9, .inl (k_2, 3040, .inl (fun _ => 0)))] H := hP
  have hD : va_D A [(y, .inr (10, [.ref q_1, .ref q_3, .ref q_5, .ref q_7, .null, .null, .null, .int 0, .int 0, .null, .null, .null, .null, .null, .null, .null])), (q_1, .inl (k_2, 3040, .inl (fun _ => 0))), (q_3, .inl (k_2, 3040, .inl (fun _ => 0))), (q_5, .inl (k_2, 3040, .inl (fun _ => 0))), (q_7, .inl (k_8, 3040, .inl (fun _ => 0))), (q_9, .inl (k_2, 3040, .inl (fun _ => 0)))] := hD
  refine W.widen (k := 5) (n := 15200) (by omega) (by omega) ?_
  refine va_putF (D := (dC, dI)) (ci := 10) (v := .ref q_9) (ty := (.array .int)) (C := RX10) (T := TX10) (N := 16) hx hb hts in_c_types_X10 tyX10 tyX10_ok nmX10 hown hK hP hD hS 0 rfl rfl 4 (by decide) (hts (.fieldLink RX10 25 "OwnedPlaces$Types" "boxes" "[I") (wm_c_types 10 rfl)) (fun _ h9 => h9) rfl hin rfl (by decide +kernel) rfl rfl (Nat.le_of_ble_eq_true rfl) dX10_init_46 (fun H locs hP hD hS => ?_)
  have hP : va_P (dC, dI) vwCl [(y, .inr (10, [.ref q_1, .ref q_3, .ref q_5, .ref q_7, .ref q_9, .null, .null, .int 0, .int 0, .null, .null, .null, .null, .null, .null, .null])), (q_1, .inl (k_2, 3040, .inl (fun _ => 0))), (q_3, .inl (k_2, 3040, .inl (fun _ => 0))), (q_5, .inl (k_2, 3040, .inl (fun _ => 0))), (q_7, .inl (k_8, 3040, .inl (fun _ => 0))), (q_9, .inl (k_2, 3040, .inl (fun _ => 0)))] H := hP
  have hD : va_D A [(y, .inr (10, [.ref q_1, .ref q_3, .ref q_5, .ref q_7, .ref q_9, .null, .null, .int 0, .int 0, .null, .null, .null, .null, .null, .null, .null])), (q_1, .inl (k_2, 3040, .inl (fun _ => 0))), (q_3, .inl (k_2, 3040, .inl (fun _ => 0))), (q_5, .inl (k_2, 3040, .inl (fun _ => 0))), (q_7, .inl (k_8, 3040, .inl (fun _ => 0))), (q_9, .inl (k_2, 3040, .inl (fun _ => 0)))] := hD
  refine lv_aload_n hx hb dX10_init_49 rfl (lv_at hl 0 rfl) ?_
  refine lv_sipush (v := 3040) hx hb dX10_init_50 (by decide) ?_
  refine va_newa (atype := .int) (a0 := (3040, .inl (fun _ => 0))) (ty := .int) hx hb (hts (.arrayClass .int) (wm_c_types 4 rfl)) rfl hK hP hD hS hA (fun _ => rfl) (by decide) (by decide +kernel) (show 3040 * 4 ≤ 536870912 by omega) (show 5 + 1 ≤ 14 by omega) (show 15200 + 3040 ≤ 35020 by omega) dX10_init_53 (fun q_11 k_12 H hK hP hD hS => ?_)
  have hP : va_P (dC, dI) vwCl [(y, .inr (10, [.ref q_1, .ref q_3, .ref q_5, .ref q_7, .ref q_9, .null, .null, .int 0, .int 0, .null, .null, .null, .null, .null, .null, .null])), (q_1, .inl (k_2, 3040, .inl (fun _ => 0))), (q_3, .inl (k_2, 3040, .inl (fun _ => 0))), (q_5, .inl (k_2, 3040, .inl (fun _ => 0))), (q_7, .inl (k_8, 3040, .inl (fun _ => 0))), (q_9, .inl (k_2, 3040, .inl (fun _ => 0))), (q_11, .inl (k_12, 3040, .inl (fun _ => 0)))] H := hP
  have hD : va_D A [(y, .inr (10, [.ref q_1, .ref q_3, .ref q_5, .ref q_7, .ref q_9, .null, .null, .int 0, .int 0, .null, .null, .null, .null, .null, .null, .null])), (q_1, .inl (k_2, 3040, .inl (fun _ => 0))), (q_3, .inl (k_2, 3040, .inl (fun _ => 0))), (q_5, .inl (k_2, 3040, .inl (fun _ => 0))), (q_7, .inl (k_8, 3040, .inl (fun _ => 0))), (q_9, .inl (k_2, 3040, .inl (fun _ => 0))), (q_11, .inl (k_12, 3040, .inl (fun _ => 0)))] := hD
  have hK : va_K (dC, dI) vwCl [(k_2, .int), (k_8, .boolean), (k_12, .int)] s := hK
  obtain rfl : k_2 = k_12 := kEq_int hK 0 2 rfl rfl
  have hK := hK.sub (tys' := [(k_2, .int), (k_8, .boolean)]) [0, 1] rfl
  have hP : va_P (dC, dI) vwCl [(y, .inr (10, [.ref q_1, .ref q_3, .ref q_5, .ref q_7, .ref q_9, .null, .null, .int 0, .int 0, .null, .null, .null, .null, .null, .null, .null])), (q_1, .inl (k_2, 3040, .inl (fun _ => 0))), (q_3, .inl (k_2, 3040, .inl (fun _ => 0))), (q_5, .inl (k_2, 3040, .inl (fun _ => 0))), (q_7, .inl (k_8, 3040, .inl (fun _ => 0))), (q_9, .inl (k_2, 3040, .inl (fun _ => 0))), (q_11, .inl (k_2, 3040, .inl (fun _ => 0)))] H := hP
  have hD : va_D A [(y, .inr (10, [.ref q_1, .ref q_3, .ref q_5, .ref q_7, .ref q_9, .null, .null, .int 0, .int 0, .null, .null, .null, .null, .null, .null, .null])), (q_1, .inl (k_2, 3040, .inl (fun _ => 0))), (q_3, .inl (k_2, 3040, .inl (fun _ => 0))), (q_5, .inl (k_2, 3040, .inl (fun _ => 0))), (q_7, .inl (k_8, 3040, .inl (fun _ => 0))), (q_9, .inl (k_2, 3040, .inl (fun _ => 0))), (q_11, .inl (k_2, 3040, .inl (fun _ => 0)))] := hD
  refine W.widen (k := 6) (n := 18240) (by omega) (by omega) ?_
  refine va_putF (D := (dC, dI)) (ci := 10) (v := .ref q_11) (ty := (.array .int)) (C := RX10) (T := TX10) (N := 16) hx hb hts in_c_types_X10 tyX10 tyX10_ok nmX10 hown hK hP hD hS 0 rfl rfl 5 (by decide) (hts (.fieldLink RX10 28 "OwnedPlaces$Types" "shared" "[I") (wm_c_types 11 rfl)) (fun _ h9 => h9) rfl hin rfl (by decide +kernel) rfl rfl (Nat.le_of_ble_eq_true rfl) dX10_init_55 (fun H locs hP hD hS => ?_)
  have hP : va_P (dC, dI) vwCl [(y, .inr (10, [.ref q_1, .ref q_3, .ref q_5, .ref q_7, .ref q_9, .ref q_11, .null, .int 0, .int 0, .null, .null, .null, .null, .null, .null, .null])), (q_1, .inl (k_2, 3040, .inl (fun _ => 0))), (q_3, .inl (k_2, 3040, .inl (fun _ => 0))), (q_5, .inl (k_2, 3040, .inl (fun _ => 0))), (q_7, .inl (k_8, 3040, .inl (fun _ => 0))), (q_9, .inl (k_2, 3040, .inl (fun _ => 0))), (q_11, .inl (k_2, 3040, .inl (fun _ => 0)))] H := hP
  have hD : va_D A [(y, .inr (10, [.ref q_1, .ref q_3, .ref q_5, .ref q_7, .ref q_9, .ref q_11, .null, .int 0, .int 0, .null, .null, .null, .null, .null, .null, .null])), (q_1, .inl (k_2, 3040, .inl (fun _ => 0))), (q_3, .inl (k_2, 3040, .inl (fun _ => 0))), (q_5, .inl (k_2, 3040, .inl (fun _ => 0))), (q_7, .inl (k_8, 3040, .inl (fun _ => 0))), (q_9, .inl (k_2, 3040, .inl (fun _ => 0))), (q_11, .inl (k_2, 3040, .inl (fun _ => 0)))] := hD
  refine lv_aload_n hx hb dX10_init_58 rfl (lv_at hl 0 rfl) ?_
  refine lv_sipush (v := 3040) hx hb dX10_init_59 (by decide) ?_
  refine va_newa (atype := .int) (a0 := (3040, .inl (fun _ => 0))) (ty := .int) hx hb (hts (.arrayClass .int) (wm_c_types 4 rfl)) rfl hK hP hD hS hA (fun _ => rfl) (by decide) (by decide +kernel) (show 3040 * 4 ≤ 536870912 by omega) (show 6 + 1 ≤ 14 by omega) (show 18240 + 3040 ≤ 35020 by omega) dX10_init_62 (fun q_13 k_14 H hK hP hD hS => ?_)
  have hP : va_P (dC, dI) vwCl [(y, .inr (10, [.ref q_1, .ref q_3, .ref q_5, .ref q_7, .ref q_9, .ref q_11, .null, .int 0, .int 0, .null, .null, .null, .null, .null, .null, .null])), (q_1, .inl (k_2, 3040, .inl (fun _ => 0))), (q_3, .inl (k_2, 3040, .inl (fun _ => 0))), (q_5, .inl (k_2, 3040, .inl (fun _ => 0))), (q_7, .inl (k_8, 3040, .inl (fun _ => 0))), (q_9, .inl (k_2, 3040, .inl (fun _ => 0))), (q_11, .inl (k_2, 3040, .inl (fun _ => 0))), (q_13, .inl (k_14, 3040, .inl (fun _ => 0)))] H := hP
  have hD : va_D A [(y, .inr (10, [.ref q_1, .ref q_3, .ref q_5, .ref q_7, .ref q_9, .ref q_11, .null, .int 0, .int 0, .null, .null, .null, .null, .null, .null, .null])), (q_1, .inl (k_2, 3040, .inl (fun _ => 0))), (q_3, .inl (k_2, 3040, .inl (fun _ => 0))), (q_5, .inl (k_2, 3040, .inl (fun _ => 0))), (q_7, .inl (k_8, 3040, .inl (fun _ => 0))), (q_9, .inl (k_2, 3040, .inl (fun _ => 0))), (q_11, .inl (k_2, 3040, .inl (fun _ => 0))), (q_13, .inl (k_14, 3040, .inl (fun _ => 0)))] := hD
  have hK : va_K (dC, dI) vwCl [(k_2, .int), (k_8, .boolean), (k_14, .int)] s := hK
  obtain rfl : k_2 = k_14 := kEq_int hK 0 2 rfl rfl
  have hK := hK.sub (tys' := [(k_2, .int), (k_8, .boolean)]) [0, 1] rfl
  have hP : va_P (dC, dI) vwCl [(y, .inr (10, [.ref q_1, .ref q_3, .ref q_5, .ref q_7, .ref q_9, .ref q_11, .null, .int 0, .int 0, .null, .null, .null, .null, .null, .null, .null])), (q_1, .inl (k_2, 3040, .inl (fun _ => 0))), (q_3, .inl (k_2, 3040, .inl (fun _ => 0))), (q_5, .inl (k_2, 3040, .inl (fun _ => 0))), (q_7, .inl (k_8, 3040, .inl (fun _ => 0))), (q_9, .inl (k_2, 3040, .inl (fun _ => 0))), (q_11, .inl (k_2, 3040, .inl (fun _ => 0))), (q_13, .inl (k_2, 3040, .inl (fun _ => 0)))] H := hP
  have hD : va_D A [(y, .inr (10, [.ref q_1, .ref q_3, .ref q_5, .ref q_7, .ref q_9, .ref q_11, .null, .int 0, .int 0, .null, .null, .null, .null, .null, .null, .null])), (q_1, .inl (k_2, 3040, .inl (fun _ => 0))), (q_3, .inl (k_2, 3040, .inl (fun _ => 0))), (q_5, .inl (k_2, 3040, .inl (fun _ => 0))), (q_7, .inl (k_8, 3040, .inl (fun _ => 0))), (q_9, .inl (k_2, 3040, .inl (fun _ => 0))), (q_11, .inl (k_2, 3040, .inl (fun _ => 0))), (q_13, .inl (k_2, 3040, .inl (fun _ => 0)))] := hD
  refine W.widen (k := 7) (n := 21280) (by omega) (by omega) ?_
  refine va_putF (D := (dC, dI)) (ci := 10) (v := .ref q_13) (ty := (.array .int)) (C := RX10) (T := TX10) (N := 16) hx hb hts in_c_types_X10 tyX10 tyX10_ok nmX10 hown hK hP hD hS 0 rfl rfl 6 (by decide) (hts (.fieldLink RX10 31 "OwnedPlaces$Types" "unique" "[I") (wm_c_types 12 rfl)) (fun _ h9 => h9) rfl hin rfl (by decide +kernel) rfl rfl (Nat.le_of_ble_eq_true rfl) dX10_init_64 (fun H locs hP hD hS => ?_)
  have hP : va_P (dC, dI) vwCl [(y, .inr (10, [.ref q_1, .ref q_3, .ref q_5, .ref q_7, .ref q_9, .ref q_11, .ref q_13, .int 0, .int 0, .null, .null, .null, .null, .null, .null, .null])), (q_1, .inl (k_2, 3040, .inl (fun _ => 0))), (q_3, .inl (k_2, 3040, .inl (fun _ => 0))), (q_5, .inl (k_2, 3040, .inl (fun _ => 0))), (q_7, .inl (k_8, 3040, .inl (fun _ => 0))), (q_9, .inl (k_2, 3040, .inl (fun _ => 0))), (q_11, .inl (k_2, 3040, .inl (fun _ => 0))), (q_13, .inl (k_2, 3040, .inl (fun _ => 0)))] H := hP
  have hD : va_D A [(y, .inr (10, [.ref q_1, .ref q_3, .ref q_5, .ref q_7, .ref q_9, .ref q_11, .ref q_13, .int 0, .int 0, .null, .null, .null, .null, .null, .null, .null])), (q_1, .inl (k_2, 3040, .inl (fun _ => 0))), (q_3, .inl (k_2, 3040, .inl (fun _ => 0))), (q_5, .inl (k_2, 3040, .inl (fun _ => 0))), (q_7, .inl (k_8, 3040, .inl (fun _ => 0))), (q_9, .inl (k_2, 3040, .inl (fun _ => 0))), (q_11, .inl (k_2, 3040, .inl (fun _ => 0))), (q_13, .inl (k_2, 3040, .inl (fun _ => 0)))] := hD
  refine lv_aload_n hx hb dX10_init_67 rfl (lv_at hl 0 rfl) ?_
  refine lv_bipush (v := 30) hx hb dX10_init_68 (by decide) ?_
  refine va_newa (atype := .int) (a0 := (30, .inl (fun _ => 0))) (ty := .int) hx hb (hts (.arrayClass .int) (wm_c_types 4 rfl)) rfl hK hP hD hS hA (fun _ => rfl) (by decide) (by decide +kernel) (show 30 * 4 ≤ 536870912 by omega) (show 7 + 1 ≤ 14 by omega) (show 21280 + 30 ≤ 35020 by omega) dX10_init_70 (fun q_15 k_16 H hK hP hD hS => ?_)
  have hP : va_P (dC, dI) vwCl [(y, .inr (10, [.ref q_1, .ref q_3, .ref q_5, .ref q_7, .ref q_9, .ref q_11, .ref q_13, .int 0, .int 0, .null, .null, .null, .null, .null, .null, .null])), (q_1, .inl (k_2, 3040, .inl (fun _ => 0))), (q_3, .inl (k_2, 3040, .inl (fun _ => 0))), (q_5, .inl (k_2, 3040, .inl (fun _ => 0))), (q_7, .inl (k_8, 3040, .inl (fun _ => 0))), (q_9, .inl (k_2, 3040, .inl (fun _ => 0))), (q_11, .inl (k_2, 3040, .inl (fun _ => 0))), (q_13, .inl (k_2, 3040, .inl (fun _ => 0))), (q_15, .inl (k_16, 30, .inl (fun _ => 0)))] H := hP
  have hD : va_D A [(y, .inr (10, [.ref q_1, .ref q_3, .ref q_5, .ref q_7, .ref q_9, .ref q_11, .ref q_13, .int 0, .int 0, .null, .null, .null, .null, .null, .null, .null])), (q_1, .inl (k_2, 3040, .inl (fun _ => 0))), (q_3, .inl (k_2, 3040, .inl (fun _ => 0))), (q_5, .inl (k_2, 3040, .inl (fun _ => 0))), (q_7, .inl (k_8, 3040, .inl (fun _ => 0))), (q_9, .inl (k_2, 3040, .inl (fun _ => 0))), (q_11, .inl (k_2, 3040, .inl (fun _ => 0))), (q_13, .inl (k_2, 3040, .inl (fun _ => 0))), (q_15, .inl (k_16, 30, .inl (fun _ => 0)))] := hD
  have hK : va_K (dC, dI) vwCl [(k_2, .int), (k_8, .boolean), (k_16, .int)] s := hK
  obtain rfl : k_2 = k_16 := kEq_int hK 0 2 rfl rfl
  have hK := hK.sub (tys' := [(k_2, .int), (k_8, .boolean)]) [0, 1] rfl
  have hP : va_P (dC, dI) vwCl [(y, .inr (10, [.ref q_1, .ref q_3, .ref q_5, .ref q_7, .ref q_9, .ref q_11, .ref q_13, .int 0, .int 0, .null, .null, .null, .null, .null, .null, .null])), (q_1, .inl (k_2, 3040, .inl (fun _ => 0))), (q_3, .inl (k_2, 3040, .inl (fun _ => 0))), (q_5, .inl (k_2, 3040, .inl (fun _ => 0))), (q_7, .inl (k_8, 3040, .inl (fun _ => 0))), (q_9, .inl (k_2, 3040, .inl (fun _ => 0))), (q_11, .inl (k_2, 3040, .inl (fun _ => 0))), (q_13, .inl (k_2, 3040, .inl (fun _ => 0))), (q_15, .inl (k_2, 30, .inl (fun _ => 0)))] H := hP
  have hD : va_D A [(y, .inr (10, [.ref q_1, .ref q_3, .ref q_5, .ref q_7, .ref q_9, .ref q_11, .ref q_13, .int 0, .int 0, .null, .null, .null, .null, .null, .null, .null])), (q_1, .inl (k_2, 3040, .inl (fun _ => 0))), (q_3, .inl (k_2, 3040, .inl (fun _ => 0))), (q_5, .inl (k_2, 3040, .inl (fun _ => 0))), (q_7, .inl (k_8, 3040, .inl (fun _ => 0))), (q_9, .inl (k_2, 3040, .inl (fun _ => 0))), (q_11, .inl (k_2, 3040, .inl (fun _ => 0))), (q_13, .inl (k_2, 3040, .inl (fun _ => 0))), (q_15, .inl (k_2, 30, .inl (fun _ => 0)))] := hD
  refine W.widen (k := 8) (n := 21310) (by omega) (by omega) ?_
  refine va_putF (D := (dC, dI)) (ci := 10) (v := .ref q_15) (ty := (.array .int)) (C := RX10) (T := TX10) (N := 16) hx hb hts in_c_types_X10 tyX10 tyX10_ok nmX10 hown hK hP hD hS 0 rfl rfl 9 (by decide) (hts (.fieldLink RX10 34 "OwnedPlaces$Types" "shapeToken" "[I") (wm_c_types 13 rfl)) (fun _ h9 => h9) rfl hin rfl (by decide +kernel) rfl rfl (Nat.le_of_ble_eq_true rfl) dX10_init_72 (fun H locs hP hD hS => ?_)
  have hP : va_P (dC, dI) vwCl [(y, .inr (10, [.ref q_1, .ref q_3, .ref q_5, .ref q_7, .ref q_9, .ref q_11, .ref q_13, .int 0, .int 0, .ref q_15, .null, .null, .null, .null, .null, .null])), (q_1, .inl (k_2, 3040, .inl (fun _ => 0))), (q_3, .inl (k_2, 3040, .inl (fun _ => 0))), (q_5, .inl (k_2, 3040, .inl (fun _ => 0))), (q_7, .inl (k_8, 3040, .inl (fun _ => 0))), (q_9, .inl (k_2, 3040, .inl (fun _ => 0))), (q_11, .inl (k_2, 3040, .inl (fun _ => 0))), (q_13, .inl (k_2, 3040, .inl (fun _ => 0))), (q_15, .inl (k_2, 30, .inl (fun _ => 0)))] H := hP
  have hD : va_D A [(y, .inr (10, [.ref q_1, .ref q_3, .ref q_5, .ref q_7, .ref q_9, .ref q_11, .ref q_13, .int 0, .int 0, .ref q_15, .null, .null, .null, .null, .null, .null])), (q_1, .inl (k_2, 3040, .inl (fun _ => 0))), (q_3, .inl (k_2, 3040, .inl (fun _ => 0))), (q_5, .inl (k_2, 3040, .inl (fun _ => 0))), (q_7, .inl (k_8, 3040, .inl (fun _ => 0))), (q_9, .inl (k_2, 3040, .inl (fun _ => 0))), (q_11, .inl (k_2, 3040, .inl (fun _ => 0))), (q_13, .inl (k_2, 3040, .inl (fun _ => 0))), (q_15, .inl (k_2, 30, .inl (fun _ => 0)))] := hD
  refine lv_aload_n hx hb dX10_init_75 rfl (lv_at hl 0 rfl) ?_
  refine lv_bipush (v := 30) hx hb dX10_init_76 (by decide) ?_
  refine va_newa (atype := .int) (a0 := (30, .inl (fun _ => 0))) (ty := .int) hx hb (hts (.arrayClass .int) (wm_c_types 4 rfl)) rfl hK hP hD hS hA (fun _ => rfl) (by decide) (by decide +kernel) (show 30 * 4 ≤ 536870912 by omega) (show 8 + 1 ≤ 14 by omega) (show 21310 + 30 ≤ 35020 by omega) dX10_init_78 (fun q_17 k_18 H hK hP hD hS => ?_)
  have hP : va_P (dC, dI) vwCl [(y, .inr (10, [.ref q_1, .ref q_3, .ref q_5, .ref q_7, .ref q_9, .ref q_11, .ref q_13, .int 0, .int 0, .ref q_15, .null, .null, .null, .null, .null, .null])), (q_1, .inl (k_2, 3040, .inl (fun _ => 0))), (q_3, .inl (k_2, 3040, .inl (fun _ => 0))), (q_5, .inl (k_2, 3040, .inl (fun _ => 0))), (q_7, .inl (k_8, 3040, .inl (fun _ => 0))), (q_9, .inl (k_2, 3040, .inl (fun _ => 0))), (q_11, .inl (k_2, 3040, .inl (fun _ => 0))), (q_13, .inl (k_2, 3040, .inl (fun _ => 0))), (q_15, .inl (k_2, 30, .inl (fun _ => 0))), (q_17, .inl (k_18, 30, .inl (fun _ => 0)))] H := hP
  have hD : va_D A [(y, .inr (10, [.ref q_1, .ref q_3, .ref q_5, .ref q_7, .ref q_9, .ref q_11, .ref q_13, .int 0, .int 0, .ref q_15, .null, .null, .null, .null, .null, .null])), (q_1, .inl (k_2, 3040, .inl (fun _ => 0))), (q_3, .inl (k_2, 3040, .inl (fun _ => 0))), (q_5, .inl (k_2, 3040, .inl (fun _ => 0))), (q_7, .inl (k_8, 3040, .inl (fun _ => 0))), (q_9, .inl (k_2, 3040, .inl (fun _ => 0))), (q_11, .inl (k_2, 3040, .inl (fun _ => 0))), (q_13, .inl (k_2, 3040, .inl (fun _ => 0))), (q_15, .inl (k_2, 30, .inl (fun _ => 0))), (q_17, .inl (k_18, 30, .inl (fun _ => 0)))] := hD
  have hK : va_K (dC, dI) vwCl [(k_2, .int), (k_8, .boolean), (k_18, .int)] s := hK
  obtain rfl : k_2 = k_18 := kEq_int hK 0 2 rfl rfl
  have hK := hK.sub (tys' := [(k_2, .int), (k_8, .boolean)]) [0, 1] rfl
  have hP : va_P (dC, dI) vwCl [(y, .inr (10, [.ref q_1, .ref q_3, .ref q_5, .ref q_7, .ref q_9, .ref q_11, .ref q_13, .int 0, .int 0, .ref q_15, .null, .null, .null, .null, .null, .null])), (q_1, .inl (k_2, 3040, .inl (fun _ => 0))), (q_3, .inl (k_2, 3040, .inl (fun _ => 0))), (q_5, .inl (k_2, 3040, .inl (fun _ => 0))), (q_7, .inl (k_8, 3040, .inl (fun _ => 0))), (q_9, .inl (k_2, 3040, .inl (fun _ => 0))), (q_11, .inl (k_2, 3040, .inl (fun _ => 0))), (q_13, .inl (k_2, 3040, .inl (fun _ => 0))), (q_15, .inl (k_2, 30, .inl (fun _ => 0))), (q_17, .inl (k_2, 30, .inl (fun _ => 0)))] H := hP
  have hD : va_D A [(y, .inr (10, [.ref q_1, .ref q_3, .ref q_5, .ref q_7, .ref q_9, .ref q_11, .ref q_13, .int 0, .int 0, .ref q_15, .null, .null, .null, .null, .null, .null])), (q_1, .inl (k_2, 3040, .inl (fun _ => 0))), (q_3, .inl (k_2, 3040, .inl (fun _ => 0))), (q_5, .inl (k_2, 3040, .inl (fun _ => 0))), (q_7, .inl (k_8, 3040, .inl (fun _ => 0))), (q_9, .inl (k_2, 3040, .inl (fun _ => 0))), (q_11, .inl (k_2, 3040, .inl (fun _ => 0))), (q_13, .inl (k_2, 3040, .inl (fun _ => 0))), (q_15, .inl (k_2, 30, .inl (fun _ => 0))), (q_17, .inl (k_2, 30, .inl (fun _ => 0)))] := hD
  refine W.widen (k := 9) (n := 21340) (by omega) (by omega) ?_
  refine va_putF (D := (dC, dI)) (ci := 10) (v := .ref q_17) (ty := (.array .int)) (C := RX10) (T := TX10) (N := 16) hx hb hts in_c_types_X10 tyX10 tyX10_ok nmX10 hown hK hP hD hS 0 rfl rfl 10 (by decide) (hts (.fieldLink RX10 37 "OwnedPlaces$Types" "variants" "[I") (wm_c_types 14 rfl)) (fun _ h9 => h9) rfl hin rfl (by decide +kernel) rfl rfl (Nat.le_of_ble_eq_true rfl) dX10_init_80 (fun H locs hP hD hS => ?_)
  have hP : va_P (dC, dI) vwCl [(y, .inr (10, [.ref q_1, .ref q_3, .ref q_5, .ref q_7, .ref q_9, .ref q_11, .ref q_13, .int 0, .int 0, .ref q_15, .ref q_17, .null, .null, .null, .null, .null])), (q_1, .inl (k_2, 3040, .inl (fun _ => 0))), (q_3, .inl (k_2, 3040, .inl (fun _ => 0))), (q_5, .inl (k_2, 3040, .inl (fun _ => 0))), (q_7, .inl (k_8, 3040, .inl (fun _ => 0))), (q_9, .inl (k_2, 3040, .inl (fun _ => 0))), (q_11, .inl (k_2, 3040, .inl (fun _ => 0))), (q_13, .inl (k_2, 3040, .inl (fun _ => 0))), (q_15, .inl (k_2, 30, .inl (fun _ => 0))), (q_17, .inl (k_2, 30, .inl (fun _ => 0)))] H := hP
  have hD : va_D A [(y, .inr (10, [.ref q_1, .ref q_3, .ref q_5, .ref q_7, .ref q_9, .ref q_11, .ref q_13, .int 0, .int 0, .ref q_15, .ref q_17, .null, .null, .null, .null, .null])), (q_1, .inl (k_2, 3040, .inl (fun _ => 0))), (q_3, .inl (k_2, 3040, .inl (fun _ => 0))), (q_5, .inl (k_2, 3040, .inl (fun _ => 0))), (q_7, .inl (k_8, 3040, .inl (fun _ => 0))), (q_9, .inl (k_2, 3040, .inl (fun _ => 0))), (q_11, .inl (k_2, 3040, .inl (fun _ => 0))), (q_13, .inl (k_2, 3040, .inl (fun _ => 0))), (q_15, .inl (k_2, 30, .inl (fun _ => 0))), (q_17, .inl (k_2, 30, .inl (fun _ => 0)))] := hD
  refine lv_aload_n hx hb dX10_init_83 rfl (lv_at hl 0 rfl) ?_
  refine lv_sipush (v := 360) hx hb dX10_init_84 (by decide) ?_
  refine va_newa (atype := .int) (a0 := (360, .inl (fun _ => 0))) (ty := .int) hx hb (hts (.arrayClass .int) (wm_c_types 4 rfl)) rfl hK hP hD hS hA (fun _ => rfl) (by decide) (by decide +kernel) (show 360 * 4 ≤ 536870912 by omega) (show 9 + 1 ≤ 14 by omega) (show 21340 + 360 ≤ 35020 by omega) dX10_init_87 (fun q_19 k_20 H hK hP hD hS => ?_)
  have hP : va_P (dC, dI) vwCl [(y, .inr (10, [.ref q_1, .ref q_3, .ref q_5, .ref q_7, .ref q_9, .ref q_11, .ref q_13, .int 0, .int 0, .ref q_15, .ref q_17, .null, .null, .null, .null, .null])), (q_1, .inl (k_2, 3040, .inl (fun _ => 0))), (q_3, .inl (k_2, 3040, .inl (fun _ => 0))), (q_5, .inl (k_2, 3040, .inl (fun _ => 0))), (q_7, .inl (k_8, 3040, .inl (fun _ => 0))), (q_9, .inl (k_2, 3040, .inl (fun _ => 0))), (q_11, .inl (k_2, 3040, .inl (fun _ => 0))), (q_13, .inl (k_2, 3040, .inl (fun _ => 0))), (q_15, .inl (k_2, 30, .inl (fun _ => 0))), (q_17, .inl (k_2, 30, .inl (fun _ => 0))), (q_19, .inl (k_20, 360, .inl (fun _ => 0)))] H := hP
  have hD : va_D A [(y, .inr (10, [.ref q_1, .ref q_3, .ref q_5, .ref q_7, .ref q_9, .ref q_11, .ref q_13, .int 0, .int 0, .ref q_15, .ref q_17, .null, .null, .null, .null, .null])), (q_1, .inl (k_2, 3040, .inl (fun _ => 0))), (q_3, .inl (k_2, 3040, .inl (fun _ => 0))), (q_5, .inl (k_2, 3040, .inl (fun _ => 0))), (q_7, .inl (k_8, 3040, .inl (fun _ => 0))), (q_9, .inl (k_2, 3040, .inl (fun _ => 0))), (q_11, .inl (k_2, 3040, .inl (fun _ => 0))), (q_13, .inl (k_2, 3040, .inl (fun _ => 0))), (q_15, .inl (k_2, 30, .inl (fun _ => 0))), (q_17, .inl (k_2, 30, .inl (fun _ => 0))), (q_19, .inl (k_20, 360, .inl (fun _ => 0)))] := hD
  have hK : va_K (dC, dI) vwCl [(k_2, .int), (k_8, .boolean), (k_20, .int)] s := hK
  obtain rfl : k_2 = k_20 := kEq_int hK 0 2 rfl rfl
  have hK := hK.sub (tys' := [(k_2, .int), (k_8, .boolean)]) [0, 1] rfl
  have hP : va_P (dC, dI) vwCl [(y, .inr (10, [.ref q_1, .ref q_3, .ref q_5, .ref q_7, .ref q_9, .ref q_11, .ref q_13, .int 0, .int 0, .ref q_15, .ref q_17, .null, .null, .null, .null, .null])), (q_1, .inl (k_2, 3040, .inl (fun _ => 0))), (q_3, .inl (k_2, 3040, .inl (fun _ => 0))), (q_5, .inl (k_2, 3040, .inl (fun _ => 0))), (q_7, .inl (k_8, 3040, .inl (fun _ => 0))), (q_9, .inl (k_2, 3040, .inl (fun _ => 0))), (q_11, .inl (k_2, 3040, .inl (fun _ => 0))), (q_13, .inl (k_2, 3040, .inl (fun _ => 0))), (q_15, .inl (k_2, 30, .inl (fun _ => 0))), (q_17, .inl (k_2, 30, .inl (fun _ => 0))), (q_19, .inl (k_2, 360, .inl (fun _ => 0)))] H := hP
  have hD : va_D A [(y, .inr (10, [.ref q_1, .ref q_3, .ref q_5, .ref q_7, .ref q_9, .ref q_11, .ref q_13, .int 0, .int 0, .ref q_15, .ref q_17, .null, .null, .null, .null, .null])), (q_1, .inl (k_2, 3040, .inl (fun _ => 0))), (q_3, .inl (k_2, 3040, .inl (fun _ => 0))), (q_5, .inl (k_2, 3040, .inl (fun _ => 0))), (q_7, .inl (k_8, 3040, .inl (fun _ => 0))), (q_9, .inl (k_2, 3040, .inl (fun _ => 0))), (q_11, .inl (k_2, 3040, .inl (fun _ => 0))), (q_13, .inl (k_2, 3040, .inl (fun _ => 0))), (q_15, .inl (k_2, 30, .inl (fun _ => 0))), (q_17, .inl (k_2, 30, .inl (fun _ => 0))), (q_19, .inl (k_2, 360, .inl (fun _ => 0)))] := hD
  refine W.widen (k := 10) (n := 21700) (by omega) (by omega) ?_
  refine va_putF (D := (dC, dI)) (ci := 10) (v := .ref q_19) (ty := (.array .int)) (C := RX10) (T := TX10) (N := 16) hx hb hts in_c_types_X10 tyX10 tyX10_ok nmX10 hown hK hP hD hS 0 rfl rfl 11 (by decide) (hts (.fieldLink RX10 40 "OwnedPlaces$Types" "variantName" "[I") (wm_c_types 15 rfl)) (fun _ h9 => h9) rfl hin rfl (by decide +kernel) rfl rfl (Nat.le_of_ble_eq_true rfl) dX10_init_89 (fun H locs hP hD hS => ?_)
  have hP : va_P (dC, dI) vwCl [(y, .inr (10, [.ref q_1, .ref q_3, .ref q_5, .ref q_7, .ref q_9, .ref q_11, .ref q_13, .int 0, .int 0, .ref q_15, .ref q_17, .ref q_19, .null, .null, .null, .null])), (q_1, .inl (k_2, 3040, .inl (fun _ => 0))), (q_3, .inl (k_2, 3040, .inl (fun _ => 0))), (q_5, .inl (k_2, 3040, .inl (fun _ => 0))), (q_7, .inl (k_8, 3040, .inl (fun _ => 0))), (q_9, .inl (k_2, 3040, .inl (fun _ => 0))), (q_11, .inl (k_2, 3040, .inl (fun _ => 0))), (q_13, .inl (k_2, 3040, .inl (fun _ => 0))), (q_15, .inl (k_2, 30, .inl (fun _ => 0))), (q_17, .inl (k_2, 30, .inl (fun _ => 0))), (q_19, .inl (k_2, 360, .inl (fun _ => 0)))] H := hP
  have hD : va_D A [(y, .inr (10, [.ref q_1, .ref q_3, .ref q_5, .ref q_7, .ref q_9, .ref q_11, .ref q_13, .int 0, .int 0, .ref q_15, .ref q_17, .ref q_19, .null, .null, .null, .null])), (q_1, .inl (k_2, 3040, .inl (fun _ => 0))), (q_3, .inl (k_2, 3040, .inl (fun _ => 0))), (q_5, .inl (k_2, 3040, .inl (fun _ => 0))), (q_7, .inl (k_8, 3040, .inl (fun _ => 0))), (q_9, .inl (k_2, 3040, .inl (fun _ => 0))), (q_11, .inl (k_2, 3040, .inl (fun _ => 0))), (q_13, .inl (k_2, 3040, .inl (fun _ => 0))), (q_15, .inl (k_2, 30, .inl (fun _ => 0))), (q_17, .inl (k_2, 30, .inl (fun _ => 0))), (q_19, .inl (k_2, 360, .inl (fun _ => 0)))] := hD
  refine lv_aload_n hx hb dX10_init_92 rfl (lv_at hl 0 rfl) ?_
  refine lv_sipush (v := 360) hx hb dX10_init_93 (by decide) ?_
  refine va_newa (atype := .int) (a0 := (360, .inl (fun _ => 0))) (ty := .int) hx hb (hts (.arrayClass .int) (wm_c_types 4 rfl)) rfl hK hP hD hS hA (fun _ => rfl) (by decide) (by decide +kernel) (show 360 * 4 ≤ 536870912 by omega) (show 10 + 1 ≤ 14 by omega) (show 21700 + 360 ≤ 35020 by omega) dX10_init_96 (fun q_21 k_22 H hK hP hD hS => ?_)
  have hP : va_P (dC, dI) vwCl [(y, .inr (10, [.ref q_1, .ref q_3, .ref q_5, .ref q_7, .ref q_9, .ref q_11, .ref q_13, .int 0, .int 0, .ref q_15, .ref q_17, .ref q_19, .null, .null, .null, .null])), (q_1, .inl (k_2, 3040, .inl (fun _ => 0))), (q_3, .inl (k_2, 3040, .inl (fun _ => 0))), (q_5, .inl (k_2, 3040, .inl (fun _ => 0))), (q_7, .inl (k_8, 3040, .inl (fun _ => 0))), (q_9, .inl (k_2, 3040, .inl (fun _ => 0))), (q_11, .inl (k_2, 3040, .inl (fun _ => 0))), (q_13, .inl (k_2, 3040, .inl (fun _ => 0))), (q_15, .inl (k_2, 30, .inl (fun _ => 0))), (q_17, .inl (k_2, 30, .inl (fun _ => 0))), (q_19, .inl (k_2, 360, .inl (fun _ => 0))), (q_21, .inl (k_22, 360, .inl (fun _ => 0)))] H := hP
  have hD : va_D A [(y, .inr (10, [.ref q_1, .ref q_3, .ref q_5, .ref q_7, .ref q_9, .ref q_11, .ref q_13, .int 0, .int 0, .ref q_15, .ref q_17, .ref q_19, .null, .null, .null, .null])), (q_1, .inl (k_2, 3040, .inl (fun _ => 0))), (q_3, .inl (k_2, 3040, .inl (fun _ => 0))), (q_5, .inl (k_2, 3040, .inl (fun _ => 0))), (q_7, .inl (k_8, 3040, .inl (fun _ => 0))), (q_9, .inl (k_2, 3040, .inl (fun _ => 0))), (q_11, .inl (k_2, 3040, .inl (fun _ => 0))), (q_13, .inl (k_2, 3040, .inl (fun _ => 0))), (q_15, .inl (k_2, 30, .inl (fun _ => 0))), (q_17, .inl (k_2, 30, .inl (fun _ => 0))), (q_19, .inl (k_2, 360, .inl (fun _ => 0))), (q_21, .inl (k_22, 360, .inl (fun _ => 0)))] := hD
  have hK : va_K (dC, dI) vwCl [(k_2, .int), (k_8, .boolean), (k_22, .int)] s := hK
  obtain rfl : k_2 = k_22 := kEq_int hK 0 2 rfl rfl
  have hK := hK.sub (tys' := [(k_2, .int), (k_8, .boolean)]) [0, 1] rfl
  have hP : va_P (dC, dI) vwCl [(y, .inr (10, [.ref q_1, .ref q_3, .ref q_5, .ref q_7, .ref q_9, .ref q_11, .ref q_13, .int 0, .int 0, .ref q_15, .ref q_17, .ref q_19, .null, .null, .null, .null])), (q_1, .inl (k_2, 3040, .inl (fun _ => 0))), (q_3, .inl (k_2, 3040, .inl (fun _ => 0))), (q_5, .inl (k_2, 3040, .inl (fun _ => 0))), (q_7, .inl (k_8, 3040, .inl (fun _ => 0))), (q_9, .inl (k_2, 3040, .inl (fun _ => 0))), (q_11, .inl (k_2, 3040, .inl (fun _ => 0))), (q_13, .inl (k_2, 3040, .inl (fun _ => 0))), (q_15, .inl (k_2, 30, .inl (fun _ => 0))), (q_17, .inl (k_2, 30, .inl (fun _ => 0))), (q_19, .inl (k_2, 360, .inl (fun _ => 0))), (q_21, .inl (k_2, 360, .inl (fun _ => 0)))] H := hP
  have hD : va_D A [(y, .inr (10, [.ref q_1, .ref q_3, .ref q_5, .ref q_7, .ref q_9, .ref q_11, .ref q_13, .int 0, .int 0, .ref q_15, .ref q_17, .ref q_19, .null, .null, .null, .null])), (q_1, .inl (k_2, 3040, .inl (fun _ => 0))), (q_3, .inl (k_2, 3040, .inl (fun _ => 0))), (q_5, .inl (k_2, 3040, .inl (fun _ => 0))), (q_7, .inl (k_8, 3040, .inl (fun _ => 0))), (q_9, .inl (k_2, 3040, .inl (fun _ => 0))), (q_11, .inl (k_2, 3040, .inl (fun _ => 0))), (q_13, .inl (k_2, 3040, .inl (fun _ => 0))), (q_15, .inl (k_2, 30, .inl (fun _ => 0))), (q_17, .inl (k_2, 30, .inl (fun _ => 0))), (q_19, .inl (k_2, 360, .inl (fun _ => 0))), (q_21, .inl (k_2, 360, .inl (fun _ => 0)))] := hD
  refine W.widen (k := 11) (n := 22060) (by omega) (by omega) ?_
  refine va_putF (D := (dC, dI)) (ci := 10) (v := .ref q_21) (ty := (.array .int)) (C := RX10) (T := TX10) (N := 16) hx hb hts in_c_types_X10 tyX10 tyX10_ok nmX10 hown hK hP hD hS 0 rfl rfl 12 (by decide) (hts (.fieldLink RX10 43 "OwnedPlaces$Types" "parts" "[I") (wm_c_types 16 rfl)) (fun _ h9 => h9) rfl hin rfl (by decide +kernel) rfl rfl (Nat.le_of_ble_eq_true rfl) dX10_init_98 (fun H locs hP hD hS => ?_)
  have hP : va_P (dC, dI) vwCl [(y, .inr (10, [.ref q_1, .ref q_3, .ref q_5, .ref q_7, .ref q_9, .ref q_11, .ref q_13, .int 0, .int 0, .ref q_15, .ref q_17, .ref q_19, .ref q_21, .null, .null, .null])), (q_1, .inl (k_2, 3040, .inl (fun _ => 0))), (q_3, .inl (k_2, 3040, .inl (fun _ => 0))), (q_5, .inl (k_2, 3040, .inl (fun _ => 0))), (q_7, .inl (k_8, 3040, .inl (fun _ => 0))), (q_9, .inl (k_2, 3040, .inl (fun _ => 0))), (q_11, .inl (k_2, 3040, .inl (fun _ => 0))), (q_13, .inl (k_2, 3040, .inl (fun _ => 0))), (q_15, .inl (k_2, 30, .inl (fun _ => 0))), (q_17, .inl (k_2, 30, .inl (fun _ => 0))), (q_19, .inl (k_2, 360, .inl (fun _ => 0))), (q_21, .inl (k_2, 360, .inl (fun _ => 0)))] H := hP
  have hD : va_D A [(y, .inr (10, [.ref q_1, .ref q_3, .ref q_5, .ref q_7, .ref q_9, .ref q_11, .ref q_13, .int 0, .int 0, .ref q_15, .ref q_17, .ref q_19, .ref q_21, .null, .null, .null])), (q_1, .inl (k_2, 3040, .inl (fun _ => 0))), (q_3, .inl (k_2, 3040, .inl (fun _ => 0))), (q_5, .inl (k_2, 3040, .inl (fun _ => 0))), (q_7, .inl (k_8, 3040, .inl (fun _ => 0))), (q_9, .inl (k_2, 3040, .inl (fun _ => 0))), (q_11, .inl (k_2, 3040, .inl (fun _ => 0))), (q_13, .inl (k_2, 3040, .inl (fun _ => 0))), (q_15, .inl (k_2, 30, .inl (fun _ => 0))), (q_17, .inl (k_2, 30, .inl (fun _ => 0))), (q_19, .inl (k_2, 360, .inl (fun _ => 0))), (q_21, .inl (k_2, 360, .inl (fun _ => 0)))] := hD
  refine lv_aload_n hx hb dX10_init_101 rfl (lv_at hl 0 rfl) ?_
  refine lv_sipush (v := 4320) hx hb dX10_init_102 (by decide) ?_
  refine va_newa (atype := .int) (a0 := (4320, .inl (fun _ => 0))) (ty := .int) hx hb (hts (.arrayClass .int) (wm_c_types 4 rfl)) rfl hK hP hD hS hA (fun _ => rfl) (by decide) (by decide +kernel) (show 4320 * 4 ≤ 536870912 by omega) (show 11 + 1 ≤ 14 by omega) (show 22060 + 4320 ≤ 35020 by omega) dX10_init_105 (fun q_23 k_24 H hK hP hD hS => ?_)
  have hP : va_P (dC, dI) vwCl [(y, .inr (10, [.ref q_1, .ref q_3, .ref q_5, .ref q_7, .ref q_9, .ref q_11, .ref q_13, .int 0, .int 0, .ref q_15, .ref q_17, .ref q_19, .ref q_21, .null, .null, .null])), (q_1, .inl (k_2, 3040, .inl (fun _ => 0))), (q_3, .inl (k_2, 3040, .inl (fun _ => 0))), (q_5, .inl (k_2, 3040, .inl (fun _ => 0))), (q_7, .inl (k_8, 3040, .inl (fun _ => 0))), (q_9, .inl (k_2, 3040, .inl (fun _ => 0))), (q_11, .inl (k_2, 3040, .inl (fun _ => 0))), (q_13, .inl (k_2, 3040, .inl (fun _ => 0))), (q_15, .inl (k_2, 30, .inl (fun _ => 0))), (q_17, .inl (k_2, 30, .inl (fun _ => 0))), (q_19, .inl (k_2, 360, .inl (fun _ => 0))), (q_21, .inl (k_2, 360, .inl (fun _ => 0))), (q_23, .inl (k_24, 4320, .inl (fun _ => 0)))] H := hP
  have hD : va_D A [(y, .inr (10, [.ref q_1, .ref q_3, .ref q_5, .ref q_7, .ref q_9, .ref q_11, .ref q_13, .int 0, .int 0, .ref q_15, .ref q_17, .ref q_19, .ref q_21, .null, .null, .null])), (q_1, .inl (k_2, 3040, .inl (fun _ => 0))), (q_3, .inl (k_2, 3040, .inl (fun _ => 0))), (q_5, .inl (k_2, 3040, .inl (fun _ => 0))), (q_7, .inl (k_8, 3040, .inl (fun _ => 0))), (q_9, .inl (k_2, 3040, .inl (fun _ => 0))), (q_11, .inl (k_2, 3040, .inl (fun _ => 0))), (q_13, .inl (k_2, 3040, .inl (fun _ => 0))), (q_15, .inl (k_2, 30, .inl (fun _ => 0))), (q_17, .inl (k_2, 30, .inl (fun _ => 0))), (q_19, .inl (k_2, 360, .inl (fun _ => 0))), (q_21, .inl (k_2, 360, .inl (fun _ => 0))), (q_23, .inl (k_24, 4320, .inl (fun _ => 0)))] := hD
  have hK : va_K (dC, dI) vwCl [(k_2, .int), (k_8, .boolean), (k_24, .int)] s := hK
  obtain rfl : k_2 = k_24 := kEq_int hK 0 2 rfl rfl
  have hK := hK.sub (tys' := [(k_2, .int), (k_8, .boolean)]) [0, 1] rfl
  have hP : va_P (dC, dI) vwCl [(y, .inr (10, [.ref q_1, .ref q_3, .ref q_5, .ref q_7, .ref q_9, .ref q_11, .ref q_13, .int 0, .int 0, .ref q_15, .ref q_17, .ref q_19, .ref q_21, .null, .null, .null])), (q_1, .inl (k_2, 3040, .inl (fun _ => 0))), (q_3, .inl (k_2, 3040, .inl (fun _ => 0))), (q_5, .inl (k_2, 3040, .inl (fun _ => 0))), (q_7, .inl (k_8, 3040, .inl (fun _ => 0))), (q_9, .inl (k_2, 3040, .inl (fun _ => 0))), (q_11, .inl (k_2, 3040, .inl (fun _ => 0))), (q_13, .inl (k_2, 3040, .inl (fun _ => 0))), (q_15, .inl (k_2, 30, .inl (fun _ => 0))), (q_17, .inl (k_2, 30, .inl (fun _ => 0))), (q_19, .inl (k_2, 360, .inl (fun _ => 0))), (q_21, .inl (k_2, 360, .inl (fun _ => 0))), (q_23, .inl (k_2, 4320, .inl (fun _ => 0)))] H := hP
  have hD : va_D A [(y, .inr (10, [.ref q_1, .ref q_3, .ref q_5, .ref q_7, .ref q_9, .ref q_11, .ref q_13, .int 0, .int 0, .ref q_15, .ref q_17, .ref q_19, .ref q_21, .null, .null, .null])), (q_1, .inl (k_2, 3040, .inl (fun _ => 0))), (q_3, .inl (k_2, 3040, .inl (fun _ => 0))), (q_5, .inl (k_2, 3040, .inl (fun _ => 0))), (q_7, .inl (k_8, 3040, .inl (fun _ => 0))), (q_9, .inl (k_2, 3040, .inl (fun _ => 0))), (q_11, .inl (k_2, 3040, .inl (fun _ => 0))), (q_13, .inl (k_2, 3040, .inl (fun _ => 0))), (q_15, .inl (k_2, 30, .inl (fun _ => 0))), (q_17, .inl (k_2, 30, .inl (fun _ => 0))), (q_19, .inl (k_2, 360, .inl (fun _ => 0))), (q_21, .inl (k_2, 360, .inl (fun _ => 0))), (q_23, .inl (k_2, 4320, .inl (fun _ => 0)))] := hD
  refine W.widen (k := 12) (n := 26380) (by omega) (by omega) ?_
  refine va_putF (D := (dC, dI)) (ci := 10) (v := .ref q_23) (ty := (.array .int)) (C := RX10) (T := TX10) (N := 16) hx hb hts in_c_types_X10 tyX10 tyX10_ok nmX10 hown hK hP hD hS 0 rfl rfl 13 (by decide) (hts (.fieldLink RX10 46 "OwnedPlaces$Types" "partName" "[I") (wm_c_types 17 rfl)) (fun _ h9 => h9) rfl hin rfl (by decide +kernel) rfl rfl (Nat.le_of_ble_eq_true rfl) dX10_init_107 (fun H locs hP hD hS => ?_)
  have hP : va_P (dC, dI) vwCl [(y, .inr (10, [.ref q_1, .ref q_3, .ref q_5, .ref q_7, .ref q_9, .ref q_11, .ref q_13, .int 0, .int 0, .ref q_15, .ref q_17, .ref q_19, .ref q_21, .ref q_23, .null, .null])), (q_1, .inl (k_2, 3040, .inl (fun _ => 0))), (q_3, .inl (k_2, 3040, .inl (fun _ => 0))), (q_5, .inl (k_2, 3040, .inl (fun _ => 0))), (q_7, .inl (k_8, 3040, .inl (fun _ => 0))), (q_9, .inl (k_2, 3040, .inl (fun _ => 0))), (q_11, .inl (k_2, 3040, .inl (fun _ => 0))), (q_13, .inl (k_2, 3040, .inl (fun _ => 0))), (q_15, .inl (k_2, 30, .inl (fun _ => 0))), (q_17, .inl (k_2, 30, .inl (fun _ => 0))), (q_19, .inl (k_2, 360, .inl (fun _ => 0))), (q_21, .inl (k_2, 360, .inl (fun _ => 0))), (q_23, .inl (k_2, 4320, .inl (fun _ => 0)))] H := hP
  have hD : va_D A [(y, .inr (10, [.ref q_1, .ref q_3, .ref q_5, .ref q_7, .ref q_9, .ref q_11, .ref q_13, .int 0, .int 0, .ref q_15, .ref q_17, .ref q_19, .ref q_21, .ref q_23, .null, .null])), (q_1, .inl (k_2, 3040, .inl (fun _ => 0))), (q_3, .inl (k_2, 3040, .inl (fun _ => 0))), (q_5, .inl (k_2, 3040, .inl (fun _ => 0))), (q_7, .inl (k_8, 3040, .inl (fun _ => 0))), (q_9, .inl (k_2, 3040, .inl (fun _ => 0))), (q_11, .inl (k_2, 3040, .inl (fun _ => 0))), (q_13, .inl (k_2, 3040, .inl (fun _ => 0))), (q_15, .inl (k_2, 30, .inl (fun _ => 0))), (q_17, .inl (k_2, 30, .inl (fun _ => 0))), (q_19, .inl (k_2, 360, .inl (fun _ => 0))), (q_21, .inl (k_2, 360, .inl (fun _ => 0))), (q_23, .inl (k_2, 4320, .inl (fun _ => 0)))] := hD
  refine lv_aload_n hx hb dX10_init_110 rfl (lv_at hl 0 rfl) ?_
  refine lv_sipush (v := 4320) hx hb dX10_init_111 (by decide) ?_
  refine va_newa (atype := .int) (a0 := (4320, .inl (fun _ => 0))) (ty := .int) hx hb (hts (.arrayClass .int) (wm_c_types 4 rfl)) rfl hK hP hD hS hA (fun _ => rfl) (by decide) (by decide +kernel) (show 4320 * 4 ≤ 536870912 by omega) (show 12 + 1 ≤ 14 by omega) (show 26380 + 4320 ≤ 35020 by omega) dX10_init_114 (fun q_25 k_26 H hK hP hD hS => ?_)
  have hP : va_P (dC, dI) vwCl [(y, .inr (10, [.ref q_1, .ref q_3, .ref q_5, .ref q_7, .ref q_9, .ref q_11, .ref q_13, .int 0, .int 0, .ref q_15, .ref q_17, .ref q_19, .ref q_21, .ref q_23, .null, .null])), (q_1, .inl (k_2, 3040, .inl (fun _ => 0))), (q_3, .inl (k_2, 3040, .inl (fun _ => 0))), (q_5, .inl (k_2, 3040, .inl (fun _ => 0))), (q_7, .inl (k_8, 3040, .inl (fun _ => 0))), (q_9, .inl (k_2, 3040, .inl (fun _ => 0))), (q_11, .inl (k_2, 3040, .inl (fun _ => 0))), (q_13, .inl (k_2, 3040, .inl (fun _ => 0))), (q_15, .inl (k_2, 30, .inl (fun _ => 0))), (q_17, .inl (k_2, 30, .inl (fun _ => 0))), (q_19, .inl (k_2, 360, .inl (fun _ => 0))), (q_21, .inl (k_2, 360, .inl (fun _ => 0))), (q_23, .inl (k_2, 4320, .inl (fun _ => 0))), (q_25, .inl (k_26, 4320, .inl (fun _ => 0)))] H := hP
  have hD : va_D A [(y, .inr (10, [.ref q_1, .ref q_3, .ref q_5, .ref q_7, .ref q_9, .ref q_11, .ref q_13, .int 0, .int 0, .ref q_15, .ref q_17, .ref q_19, .ref q_21, .ref q_23, .null, .null])), (q_1, .inl (k_2, 3040, .inl (fun _ => 0))), (q_3, .inl (k_2, 3040, .inl (fun _ => 0))), (q_5, .inl (k_2, 3040, .inl (fun _ => 0))), (q_7, .inl (k_8, 3040, .inl (fun _ => 0))), (q_9, .inl (k_2, 3040, .inl (fun _ => 0))), (q_11, .inl (k_2, 3040, .inl (fun _ => 0))), (q_13, .inl (k_2, 3040, .inl (fun _ => 0))), (q_15, .inl (k_2, 30, .inl (fun _ => 0))), (q_17, .inl (k_2, 30, .inl (fun _ => 0))), (q_19, .inl (k_2, 360, .inl (fun _ => 0))), (q_21, .inl (k_2, 360, .inl (fun _ => 0))), (q_23, .inl (k_2, 4320, .inl (fun _ => 0))), (q_25, .inl (k_26, 4320, .inl (fun _ => 0)))] := hD
  have hK : va_K (dC, dI) vwCl [(k_2, .int), (k_8, .boolean), (k_26, .int)] s := hK
  obtain rfl : k_2 = k_26 := kEq_int hK 0 2 rfl rfl
  have hK := hK.sub (tys' := [(k_2, .int), (k_8, .boolean)]) [0, 1] rfl
  have hP : va_P (dC, dI) vwCl [(y, .inr (10, [.ref q_1, .ref q_3, .ref q_5, .ref q_7, .ref q_9, .ref q_11, .ref q_13, .int 0, .int 0, .ref q_15, .ref q_17, .ref q_19, .ref q_21, .ref q_23, .null, .null])), (q_1, .inl (k_2, 3040, .inl (fun _ => 0))), (q_3, .inl (k_2, 3040, .inl (fun _ => 0))), (q_5, .inl (k_2, 3040, .inl (fun _ => 0))), (q_7, .inl (k_8, 3040, .inl (fun _ => 0))), (q_9, .inl (k_2, 3040, .inl (fun _ => 0))), (q_11, .inl (k_2, 3040, .inl (fun _ => 0))), (q_13, .inl (k_2, 3040, .inl (fun _ => 0))), (q_15, .inl (k_2, 30, .inl (fun _ => 0))), (q_17, .inl (k_2, 30, .inl (fun _ => 0))), (q_19, .inl (k_2, 360, .inl (fun _ => 0))), (q_21, .inl (k_2, 360, .inl (fun _ => 0))), (q_23, .inl (k_2, 4320, .inl (fun _ => 0))), (q_25, .inl (k_2, 4320, .inl (fun _ => 0)))] H := hP
  have hD : va_D A [(y, .inr (10, [.ref q_1, .ref q_3, .ref q_5, .ref q_7, .ref q_9, .ref q_11, .ref q_13, .int 0, .int 0, .ref q_15, .ref q_17, .ref q_19, .ref q_21, .ref q_23, .null, .null])), (q_1, .inl (k_2, 3040, .inl (fun _ => 0))), (q_3, .inl (k_2, 3040, .inl (fun _ => 0))), (q_5, .inl (k_2, 3040, .inl (fun _ => 0))), (q_7, .inl (k_8, 3040, .inl (fun _ => 0))), (q_9, .inl (k_2, 3040, .inl (fun _ => 0))), (q_11, .inl (k_2, 3040, .inl (fun _ => 0))), (q_13, .inl (k_2, 3040, .inl (fun _ => 0))), (q_15, .inl (k_2, 30, .inl (fun _ => 0))), (q_17, .inl (k_2, 30, .inl (fun _ => 0))), (q_19, .inl (k_2, 360, .inl (fun _ => 0))), (q_21, .inl (k_2, 360, .inl (fun _ => 0))), (q_23, .inl (k_2, 4320, .inl (fun _ => 0))), (q_25, .inl (k_2, 4320, .inl (fun _ => 0)))] := hD
  refine W.widen (k := 13) (n := 30700) (by omega) (by omega) ?_
  refine va_putF (D := (dC, dI)) (ci := 10) (v := .ref q_25) (ty := (.array .int)) (C := RX10) (T := TX10) (N := 16) hx hb hts in_c_types_X10 tyX10 tyX10_ok nmX10 hown hK hP hD hS 0 rfl rfl 14 (by decide) (hts (.fieldLink RX10 49 "OwnedPlaces$Types" "partType" "[I") (wm_c_types 18 rfl)) (fun _ h9 => h9) rfl hin rfl (by decide +kernel) rfl rfl (Nat.le_of_ble_eq_true rfl) dX10_init_116 (fun H locs hP hD hS => ?_)
  have hP : va_P (dC, dI) vwCl [(y, .inr (10, [.ref q_1, .ref q_3, .ref q_5, .ref q_7, .ref q_9, .ref q_11, .ref q_13, .int 0, .int 0, .ref q_15, .ref q_17, .ref q_19, .ref q_21, .ref q_23, .ref q_25, .null])), (q_1, .inl (k_2, 3040, .inl (fun _ => 0))), (q_3, .inl (k_2, 3040, .inl (fun _ => 0))), (q_5, .inl (k_2, 3040, .inl (fun _ => 0))), (q_7, .inl (k_8, 3040, .inl (fun _ => 0))), (q_9, .inl (k_2, 3040, .inl (fun _ => 0))), (q_11, .inl (k_2, 3040, .inl (fun _ => 0))), (q_13, .inl (k_2, 3040, .inl (fun _ => 0))), (q_15, .inl (k_2, 30, .inl (fun _ => 0))), (q_17, .inl (k_2, 30, .inl (fun _ => 0))), (q_19, .inl (k_2, 360, .inl (fun _ => 0))), (q_21, .inl (k_2, 360, .inl (fun _ => 0))), (q_23, .inl (k_2, 4320, .inl (fun _ => 0))), (q_25, .inl (k_2, 4320, .inl (fun _ => 0)))] H := hP
  have hD : va_D A [(y, .inr (10, [.ref q_1, .ref q_3, .ref q_5, .ref q_7, .ref q_9, .ref q_11, .ref q_13, .int 0, .int 0, .ref q_15, .ref q_17, .ref q_19, .ref q_21, .ref q_23, .ref q_25, .null])), (q_1, .inl (k_2, 3040, .inl (fun _ => 0))), (q_3, .inl (k_2, 3040, .inl (fun _ => 0))), (q_5, .inl (k_2, 3040, .inl (fun _ => 0))), (q_7, .inl (k_8, 3040, .inl (fun _ => 0))), (q_9, .inl (k_2, 3040, .inl (fun _ => 0))), (q_11, .inl (k_2, 3040, .inl (fun _ => 0))), (q_13, .inl (k_2, 3040, .inl (fun _ => 0))), (q_15, .inl (k_2, 30, .inl (fun _ => 0))), (q_17, .inl (k_2, 30, .inl (fun _ => 0))), (q_19, .inl (k_2, 360, .inl (fun _ => 0))), (q_21, .inl (k_2, 360, .inl (fun _ => 0))), (q_23, .inl (k_2, 4320, .inl (fun _ => 0))), (q_25, .inl (k_2, 4320, .inl (fun _ => 0)))] := hD
  refine lv_aload_n hx hb dX10_init_119 rfl (lv_at hl 0 rfl) ?_
  refine lv_sipush (v := 4320) hx hb dX10_init_120 (by decide) ?_
  refine va_newa (atype := .int) (a0 := (4320, .inl (fun _ => 0))) (ty := .int) hx hb (hts (.arrayClass .int) (wm_c_types 4 rfl)) rfl hK hP hD hS hA (fun _ => rfl) (by decide) (by decide +kernel) (show 4320 * 4 ≤ 536870912 by omega) (show 13 + 1 ≤ 14 by omega) (show 30700 + 4320 ≤ 35020 by omega) dX10_init_123 (fun q_27 k_28 H hK hP hD hS => ?_)
  have hP : va_P (dC, dI) vwCl [(y, .inr (10, [.ref q_1, .ref q_3, .ref q_5, .ref q_7, .ref q_9, .ref q_11, .ref q_13, .int 0, .int 0, .ref q_15, .ref q_17, .ref q_19, .ref q_21, .ref q_23, .ref q_25, .null])), (q_1, .inl (k_2, 3040, .inl (fun _ => 0))), (q_3, .inl (k_2, 3040, .inl (fun _ => 0))), (q_5, .inl (k_2, 3040, .inl (fun _ => 0))), (q_7, .inl (k_8, 3040, .inl (fun _ => 0))), (q_9, .inl (k_2, 3040, .inl (fun _ => 0))), (q_11, .inl (k_2, 3040, .inl (fun _ => 0))), (q_13, .inl (k_2, 3040, .inl (fun _ => 0))), (q_15, .inl (k_2, 30, .inl (fun _ => 0))), (q_17, .inl (k_2, 30, .inl (fun _ => 0))), (q_19, .inl (k_2, 360, .inl (fun _ => 0))), (q_21, .inl (k_2, 360, .inl (fun _ => 0))), (q_23, .inl (k_2, 4320, .inl (fun _ => 0))), (q_25, .inl (k_2, 4320, .inl (fun _ => 0))), (q_27, .inl (k_28, 4320, .inl (fun _ => 0)))] H := hP
  have hD : va_D A [(y, .inr (10, [.ref q_1, .ref q_3, .ref q_5, .ref q_7, .ref q_9, .ref q_11, .ref q_13, .int 0, .int 0, .ref q_15, .ref q_17, .ref q_19, .ref q_21, .ref q_23, .ref q_25, .null])), (q_1, .inl (k_2, 3040, .inl (fun _ => 0))), (q_3, .inl (k_2, 3040, .inl (fun _ => 0))), (q_5, .inl (k_2, 3040, .inl (fun _ => 0))), (q_7, .inl (k_8, 3040, .inl (fun _ => 0))), (q_9, .inl (k_2, 3040, .inl (fun _ => 0))), (q_11, .inl (k_2, 3040, .inl (fun _ => 0))), (q_13, .inl (k_2, 3040, .inl (fun _ => 0))), (q_15, .inl (k_2, 30, .inl (fun _ => 0))), (q_17, .inl (k_2, 30, .inl (fun _ => 0))), (q_19, .inl (k_2, 360, .inl (fun _ => 0))), (q_21, .inl (k_2, 360, .inl (fun _ => 0))), (q_23, .inl (k_2, 4320, .inl (fun _ => 0))), (q_25, .inl (k_2, 4320, .inl (fun _ => 0))), (q_27, .inl (k_28, 4320, .inl (fun _ => 0)))] := hD
  have hK : va_K (dC, dI) vwCl [(k_2, .int), (k_8, .boolean), (k_28, .int)] s := hK
  obtain rfl : k_2 = k_28 := kEq_int hK 0 2 rfl rfl
  have hK := hK.sub (tys' := [(k_2, .int), (k_8, .boolean)]) [0, 1] rfl
  have hP : va_P (dC, dI) vwCl [(y, .inr (10, [.ref q_1, .ref q_3, .ref q_5, .ref q_7, .ref q_9, .ref q_11, .ref q_13, .int 0, .int 0, .ref q_15, .ref q_17, .ref q_19, .ref q_21, .ref q_23, .ref q_25, .null])), (q_1, .inl (k_2, 3040, .inl (fun _ => 0))), (q_3, .inl (k_2, 3040, .inl (fun _ => 0))), (q_5, .inl (k_2, 3040, .inl (fun _ => 0))), (q_7, .inl (k_8, 3040, .inl (fun _ => 0))), (q_9, .inl (k_2, 3040, .inl (fun _ => 0))), (q_11, .inl (k_2, 3040, .inl (fun _ => 0))), (q_13, .inl (k_2, 3040, .inl (fun _ => 0))), (q_15, .inl (k_2, 30, .inl (fun _ => 0))), (q_17, .inl (k_2, 30, .inl (fun _ => 0))), (q_19, .inl (k_2, 360, .inl (fun _ => 0))), (q_21, .inl (k_2, 360, .inl (fun _ => 0))), (q_23, .inl (k_2, 4320, .inl (fun _ => 0))), (q_25, .inl (k_2, 4320, .inl (fun _ => 0))), (q_27, .inl (k_2, 4320, .inl (fun _ => 0)))] H := hP
  have hD : va_D A [(y, .inr (10, [.ref q_1, .ref q_3, .ref q_5, .ref q_7, .ref q_9, .ref q_11, .ref q_13, .int 0, .int 0, .ref q_15, .ref q_17, .ref q_19, .ref q_21, .ref q_23, .ref q_25, .null])), (q_1, .inl (k_2, 3040, .inl (fun _ => 0))), (q_3, .inl (k_2, 3040, .inl (fun _ => 0))), (q_5, .inl (k_2, 3040, .inl (fun _ => 0))), (q_7, .inl (k_8, 3040, .inl (fun _ => 0))), (q_9, .inl (k_2, 3040, .inl (fun _ => 0))), (q_11, .inl (k_2, 3040, .inl (fun _ => 0))), (q_13, .inl (k_2, 3040, .inl (fun _ => 0))), (q_15, .inl (k_2, 30, .inl (fun _ => 0))), (q_17, .inl (k_2, 30, .inl (fun _ => 0))), (q_19, .inl (k_2, 360, .inl (fun _ => 0))), (q_21, .inl (k_2, 360, .inl (fun _ => 0))), (q_23, .inl (k_2, 4320, .inl (fun _ => 0))), (q_25, .inl (k_2, 4320, .inl (fun _ => 0))), (q_27, .inl (k_2, 4320, .inl (fun _ => 0)))] := hD
  refine W.widen (k := 14) (n := 35020) (by omega) (by omega) ?_
  refine va_putF (D := (dC, dI)) (ci := 10) (v := .ref q_27) (ty := (.array .int)) (C := RX10) (T := TX10) (N := 16) hx hb hts in_c_types_X10 tyX10 tyX10_ok nmX10 hown hK hP hD hS 0 rfl rfl 15 (by decide) (hts (.fieldLink RX10 52 "OwnedPlaces$Types" "partOffset" "[I") (wm_c_types 19 rfl)) (fun _ h9 => h9) rfl hin rfl (by decide +kernel) rfl rfl (Nat.le_of_ble_eq_true rfl) dX10_init_125 (fun H locs hP hD hS => ?_)
  have hP : va_P (dC, dI) vwCl [(y, .inr (10, [.ref q_1, .ref q_3, .ref q_5, .ref q_7, .ref q_9, .ref q_11, .ref q_13, .int 0, .int 0, .ref q_15, .ref q_17, .ref q_19, .ref q_21, .ref q_23, .ref q_25, .ref q_27])), (q_1, .inl (k_2, 3040, .inl (fun _ => 0))), (q_3, .inl (k_2, 3040, .inl (fun _ => 0))), (q_5, .inl (k_2, 3040, .inl (fun _ => 0))), (q_7, .inl (k_8, 3040, .inl (fun _ => 0))), (q_9, .inl (k_2, 3040, .inl (fun _ => 0))), (q_11, .inl (k_2, 3040, .inl (fun _ => 0))), (q_13, .inl (k_2, 3040, .inl (fun _ => 0))), (q_15, .inl (k_2, 30, .inl (fun _ => 0))), (q_17, .inl (k_2, 30, .inl (fun _ => 0))), (q_19, .inl (k_2, 360, .inl (fun _ => 0))), (q_21, .inl (k_2, 360, .inl (fun _ => 0))), (q_23, .inl (k_2, 4320, .inl (fun _ => 0))), (q_25, .inl (k_2, 4320, .inl (fun _ => 0))), (q_27, .inl (k_2, 4320, .inl (fun _ => 0)))] H := hP
  have hD : va_D A [(y, .inr (10, [.ref q_1, .ref q_3, .ref q_5, .ref q_7, .ref q_9, .ref q_11, .ref q_13, .int 0, .int 0, .ref q_15, .ref q_17, .ref q_19, .ref q_21, .ref q_23, .ref q_25, .ref q_27])), (q_1, .inl (k_2, 3040, .inl (fun _ => 0))), (q_3, .inl (k_2, 3040, .inl (fun _ => 0))), (q_5, .inl (k_2, 3040, .inl (fun _ => 0))), (q_7, .inl (k_8, 3040, .inl (fun _ => 0))), (q_9, .inl (k_2, 3040, .inl (fun _ => 0))), (q_11, .inl (k_2, 3040, .inl (fun _ => 0))), (q_13, .inl (k_2, 3040, .inl (fun _ => 0))), (q_15, .inl (k_2, 30, .inl (fun _ => 0))), (q_17, .inl (k_2, 30, .inl (fun _ => 0))), (q_19, .inl (k_2, 360, .inl (fun _ => 0))), (q_21, .inl (k_2, 360, .inl (fun _ => 0))), (q_23, .inl (k_2, 4320, .inl (fun _ => 0))), (q_25, .inl (k_2, 4320, .inl (fun _ => 0))), (q_27, .inl (k_2, 4320, .inl (fun _ => 0)))] := hD
  have hP9 := hP.sub (ws' := [(y, .inr (10, [.ref q_1, .ref q_3, .ref q_5, .ref q_7, .ref q_9, .ref q_11, .ref q_13, .int 0, .int 0, .ref q_15, .ref q_17, .ref q_19, .ref q_21, .ref q_23, .ref q_25, .ref q_27])), (q_1, .inl (k_2, 3040, .inl (fun _ => 0))), (q_3, .inl (k_2, 3040, .inl (fun _ => 0))), (q_5, .inl (k_2, 3040, .inl (fun _ => 0))), (q_7, .inl (k_8, 3040, .inl (fun _ => 0))), (q_9, .inl (k_2, 3040, .inl (fun _ => 0))), (q_11, .inl (k_2, 3040, .inl (fun _ => 0))), (q_13, .inl (k_2, 3040, .inl (fun _ => 0)))]) [0, 1, 2, 3, 4, 5, 6, 7] rfl
  have hD9 := hD.sub (ws' := [(y, .inr (10, [.ref q_1, .ref q_3, .ref q_5, .ref q_7, .ref q_9, .ref q_11, .ref q_13, .int 0, .int 0, .ref q_15, .ref q_17, .ref q_19, .ref q_21, .ref q_23, .ref q_25, .ref q_27])), (q_1, .inl (k_2, 3040, .inl (fun _ => 0))), (q_3, .inl (k_2, 3040, .inl (fun _ => 0))), (q_5, .inl (k_2, 3040, .inl (fun _ => 0))), (q_7, .inl (k_8, 3040, .inl (fun _ => 0))), (q_9, .inl (k_2, 3040, .inl (fun _ => 0))), (q_11, .inl (k_2, 3040, .inl (fun _ => 0))), (q_13, .inl (k_2, 3040, .inl (fun _ => 0)))]) [0, 1, 2, 3, 4, 5, 6, 7] (by decide) rfl
  have hK9 := hK.sub (tys' := [(k_2, .int), (k_8, .boolean)]) [0, 1] rfl
  refine W.widen (k := 14) (n := 35020) (by omega) (by omega) ?_
  exact W.vret hx hb hr (fun tS ht hW => ⟨⟨(), rfl, trivial, q_1, q_3, q_5, q_7, q_9, q_11, q_13, q_15, q_17, q_19, q_21, q_23, q_25, q_27, k_2, k_8, by rw [ht]; exact hP9, va_K.moved hW.alike hK9, hD9⟩, hS.F ht⟩) hS.2.2 dX10_init_128
end
section
def wf_c_decl : List Cond := [.code yX1_init cX1_init 4 none, .methodLink RX1 3 objectInit, .instanceMethod objectInit, .code objectInit ⟨#[0xb1]⟩ 1 none, .classLink RX1 9 RX2, .fieldLink RX1 11 "OwnedPlaces$Declarations" "functions" "[LOwnedPlaces$Function;", .arrayClass .int, .fieldLink RX1 17 "OwnedPlaces$Declarations" "meanings" "[I", .fieldLink RX1 21 "OwnedPlaces$Declarations" "text" "LOwnedPlaces$Text;", .fieldLink RX1 25 "OwnedPlaces$Declarations" "types" "LOwnedPlaces$Types;", .instantiable RX2 22, .initialized RX2, .code yX2_init cX2_init 1 none, .methodLink RX2 3 objectInit, .fieldLink RX2 9 "OwnedPlaces$Function" "lifeName" "[I", .fieldLink RX2 15 "OwnedPlaces$Function" "parameterLife" "[I", .fieldLink RX2 18 "OwnedPlaces$Function" "name" "[I", .fieldLink RX2 21 "OwnedPlaces$Function" "type" "[I", .arrayClass .boolean, .fieldLink RX2 24 "OwnedPlaces$Function" "mutable" "[Z", .fieldLink RX2 28 "OwnedPlaces$Function" "offset" "[I", .fieldLink RX2 31 "OwnedPlaces$Function" "from" "[I", .fieldLink RX2 34 "OwnedPlaces$Function" "to" "[I", .instanceMethod yX2_init]
def wp_c_decl : List Cond := wf_c_decl ++ (wsX10 ++ (wsX20 ++ []))
theorem in_c_decl_X1 : ∀ w ∈ wsX10, w ∈ wp_c_decl := fun w h => List.mem_append_right _ (List.mem_append_left _ h)
theorem in_c_decl_X2 : ∀ w ∈ wsX20, w ∈ wp_c_decl := fun w h => List.mem_append_right _ (List.mem_append_right _ (List.mem_append_left _ h))
theorem wg_c_decl : wf_c_decl.all goodWord = true := by decide +kernel
theorem wm_c_decl (k : Nat) {w : Cond} (h : wp_c_decl[k]? = some w) : w ∈ wp_c_decl := List.mem_of_getElem? h
set_option maxRecDepth 20000 in
theorem g_c_decl_c_function_49 : GoodIn wp_c_decl wp_c_function := goodIn_app (goodIn_f (wf_c_function) [12, 13, 2, 3, 6, 14, 15, 16, 17, 18, 19, 20, 21, 22] rfl wg_c_function) (goodIn_app (goodIn_sub in_c_decl_X2 gd_X2) (goodIn_n))
set_option maxHeartbeats 4000000 in
set_option maxRecDepth 100000 in
theorem c_decl (l : Launch) (dC : Nat → ClassId) (dI : Nat → Nat → Nat) (d h y : Nat) (sz : Nat) : Met l yX1_init wp_c_decl ({ frames := 2, cells := 362, slots := 14340, locals := 32 }) (va_Pc [.ref d, .ref h, .ref y] (fun U => U.heap.size = sz ∧ va_P (dC, dI) vwCl [(d, .inr (1, [.null, .null, .null, .int 0, .int 0, .null, .null, .int 0]))] U.heap ∧ va_K (dC, dI) vwCl [] U ∧ va_D (fun _ => True) [(d, .inr (1, [.null, .null, .null, .int 0, .int 0, .null, .null, .int 0]))] ∧ va_Nw (.methodLinkNest RX1 29 yX2_init "OwnedPlaces") U ∧ va_AO RX2 U)) (va_Qv (fun _ : Unit => True) (fun (_ : Unit) (t : State) => ∃ (df : Nat) (dm : Nat) (kI : ClassId), va_P (dC, dI) vwCl [(d, .inr (1, [.ref h, .ref y, .ref df, .int 0, .int 0, .ref dm, .null, .int 0])), (dm, .inl (kI, 3020, .inl (fun _ => 0)))] t.heap ∧ va_K (dC, dI) vwCl [(kI, .int)] t ∧ va_D (va_A [(d, .inr (1, [.null, .null, .null, .int 0, .int 0, .null, .null, .int 0]))] sz) [(d, .inr (1, [.ref h, .ref y, .ref df, .int 0, .int 0, .ref dm, .null, .int 0])), (dm, .inl (kI, 3020, .inl (fun _ => 0)))]) (va_A [(d, .inr (1, [.null, .null, .null, .int 0, .int 0, .null, .null, .int 0]))] sz)) 362 14340 (va_A [(d, .inr (1, [.null, .null, .null, .int 0, .int 0, .null, .null, .int 0]))] sz) := by
  refine Met.ofW (cc := cX1_init) (maxL := 4) (ret := none) (by decide) rfl ?_
  intro p e s m args below meth c s₁ B hml hv
  obtain ⟨rfl, hsz, hP, hK, hD0, hpre0, hpre1⟩ := hv
  have hx := B.exec
  have hb := B.bytes
  have hr := B.returns
  have hts := atoms_spec (ws := wp_c_decl) B.pre
  have hown : s.vm.findClass RX1 = some m.cls := findClass_of_methodNamed B.named
  have hlocks := B.notSynchronized
  have hin : meth.name = "<init>" := (name_of_methodNamed B.named B.method).1
  subst hsz
  have hD := hD0.self (sz := s.heap.size)
  generalize hAe : va_A [(d, .inr (1, [.null, .null, .null, .int 0, .int 0, .null, .null, .int 0]))] s.heap.size = A at hD ⊢
  have hA : ∀ q : Nat, s.heap.size ≤ q → A q := fun q h => by rw [← hAe]; exact Or.inr h
  have hS : va_S A s.heap s.heap [] := va_S.rf
  have hP : va_P (dC, dI) vwCl [(d, .inr (1, [.null, .null, .null, .int 0, .int 0, .null, .null, .int 0]))] s.heap := hP
  have hl := lv_entry ([.ref d, .ref h, .ref y]) (n := 4) (Nat.le_of_ble_eq_true rfl)
  rw [lg_entry_eq]
  generalize (lg_sl ([.ref d, .ref h, .ref y]) ++ List.replicate (4 - (lg_sl ([.ref d, .ref h, .ref y])).length) Slot.unset).toArray = ls at hl ⊢
  have hl : lv_has ls 4 [(0, .ref d), (1, .ref h), (2, .ref y)] := hl
  refine lv_aload_n hx hb dX1_init_0 rfl (lv_at hl 0 rfl) ?_
  refine W.objInit hx hb hown (hts (.methodLink RX1 3 objectInit) (wm_c_decl 1 rfl)) (hts (.instanceMethod objectInit) (wm_c_decl 2 rfl)) (hts (.code objectInit ⟨#[0xb1]⟩ 1 none) (wm_c_decl 3 rfl)) rfl (by rw [hml]; exact hl.1) rfl dX1_init_1 (Nat.le_of_ble_eq_true rfl) (Nat.le_of_ble_eq_true rfl) ?_
  refine W.eq (g2 := F0 m 4 ls []) rfl ?_
  refine lv_aload_n hx hb dX1_init_4 rfl (lv_at hl 0 rfl) ?_
  refine lv_bipush (v := 40) hx hb dX1_init_5 (by decide) ?_
  refine va_newq (C := RX2) hx hb hown (hts (.classLink RX1 9 RX2) (wm_c_decl 4 rfl)) hpre1 hK hP hD hS hA (by decide) (by decide +kernel) (show 40 * 4 ≤ 536870912 by omega) (show 0 + 1 ≤ 362 by omega) (show 0 + 40 ≤ 14340 by omega) dX1_init_7 (fun q_1 k_2 H hK hP hD hS => ?_)
  have hP : va_P (dC, dI) vwCl [(d, .inr (1, [.null, .null, .null, .int 0, .int 0, .null, .null, .int 0])), (q_1, .inl (k_2, 40, .inr (.inr (.inr (.inr (fun _ => none))))))] H := hP
  have hD : va_D A [(d, .inr (1, [.null, .null, .null, .int 0, .int 0, .null, .null, .int 0])), (q_1, .inl (k_2, 40, .inr (.inr (.inr (.inr (fun _ => none))))))] := hD
  have hK : va_K (dC, dI) vwCl [(k_2, .object RX2)] s := hK
  refine W.widen (k := 1) (n := 40) (by omega) (by omega) ?_
  refine va_putF (D := (dC, dI)) (ci := 1) (v := .ref q_1) (ty := (.array (.object "OwnedPlaces$Function"))) (C := RX1) (T := TX1) (N := 8) hx hb hts in_c_decl_X1 tyX1 tyX1_ok nmX1 hown hK hP hD hS 0 rfl rfl 2 (by decide) (hts (.fieldLink RX1 11 "OwnedPlaces$Declarations" "functions" "[LOwnedPlaces$Function;") (wm_c_decl 5 rfl)) (fun _ h9 => h9) rfl hin rfl (by decide +kernel) rfl rfl (Nat.le_of_ble_eq_true rfl) dX1_init_10 (fun H locs hP hD hS => ?_)
  have hP : va_P (dC, dI) vwCl [(d, .inr (1, [.null, .null, .ref q_1, .int 0, .int 0, .null, .null, .int 0])), (q_1, .inl (k_2, 40, .inr (.inr (.inr (.inr (fun _ => none))))))] H := hP
  have hD : va_D A [(d, .inr (1, [.null, .null, .ref q_1, .int 0, .int 0, .null, .null, .int 0])), (q_1, .inl (k_2, 40, .inr (.inr (.inr (.inr (fun _ => none))))))] := hD
  refine lv_aload_n hx hb dX1_init_13 rfl (lv_at hl 0 rfl) ?_
  refine lv_sipush (v := 3020) hx hb dX1_init_14 (by decide) ?_
  refine va_newa (atype := .int) (a0 := (3020, .inl (fun _ => 0))) (ty := .int) hx hb (hts (.arrayClass .int) (wm_c_decl 6 rfl)) rfl hK hP hD hS hA (fun _ => rfl) (by decide) (by decide +kernel) (show 3020 * 4 ≤ 536870912 by omega) (show 1 + 1 ≤ 362 by omega) (show 40 + 3020 ≤ 14340 by omega) dX1_init_17 (fun q_3 k_4 H hK hP hD hS => ?_)
  have hP : va_P (dC, dI) vwCl [(d, .inr (1, [.null, .null, .ref q_1, .int 0, .int 0, .null, .null, .int 0])), (q_1, .inl (k_2, 40, .inr (.inr (.inr (.inr (fun _ => none)))))), (q_3, .inl (k_4, 3020, .inl (fun _ => 0)))] H := hP
  have hD : va_D A [(d, .inr (1, [.null, .null, .ref q_1, .int 0, .int 0, .null, .null, .int 0])), (q_1, .inl (k_2, 40, .inr (.inr (.inr (.inr (fun _ => none)))))), (q_3, .inl (k_4, 3020, .inl (fun _ => 0)))] := hD
  have hK : va_K (dC, dI) vwCl [(k_2, .object RX2), (k_4, .int)] s := hK
  refine W.widen (k := 2) (n := 3060) (by omega) (by omega) ?_
  refine va_putF (D := (dC, dI)) (ci := 1) (v := .ref q_3) (ty := (.array .int)) (C := RX1) (T := TX1) (N := 8) hx hb hts in_c_decl_X1 tyX1 tyX1_ok nmX1 hown hK hP hD hS 0 rfl rfl 5 (by decide) (hts (.fieldLink RX1 17 "OwnedPlaces$Declarations" "meanings" "[I") (wm_c_decl 7 rfl)) (fun _ h9 => h9) rfl hin rfl (by decide +kernel) rfl rfl (Nat.le_of_ble_eq_true rfl) dX1_init_19 (fun H locs hP hD hS => ?_)
  have hP : va_P (dC, dI) vwCl [(d, .inr (1, [.null, .null, .ref q_1, .int 0, .int 0, .ref q_3, .null, .int 0])), (q_1, .inl (k_2, 40, .inr (.inr (.inr (.inr (fun _ => none)))))), (q_3, .inl (k_4, 3020, .inl (fun _ => 0)))] H := hP
  have hD : va_D A [(d, .inr (1, [.null, .null, .ref q_1, .int 0, .int 0, .ref q_3, .null, .int 0])), (q_1, .inl (k_2, 40, .inr (.inr (.inr (.inr (fun _ => none)))))), (q_3, .inl (k_4, 3020, .inl (fun _ => 0)))] := hD
  refine lv_aload_n hx hb dX1_init_22 rfl (lv_at hl 0 rfl) ?_
  refine lv_aload_n hx hb dX1_init_23 rfl (lv_at hl 1 rfl) ?_
  refine va_putF (D := (dC, dI)) (ci := 1) (v := .ref h) (ty := (.object "OwnedPlaces$Text")) (C := RX1) (T := TX1) (N := 8) hx hb hts in_c_decl_X1 tyX1 tyX1_ok nmX1 hown hK hP hD hS 0 rfl rfl 0 (by decide) (hts (.fieldLink RX1 21 "OwnedPlaces$Declarations" "text" "LOwnedPlaces$Text;") (wm_c_decl 8 rfl)) (fun _ h9 => h9) rfl hin rfl (by decide +kernel) rfl rfl (Nat.le_of_ble_eq_true rfl) dX1_init_24 (fun H locs hP hD hS => ?_)
  have hP : va_P (dC, dI) vwCl [(d, .inr (1, [.ref h, .null, .ref q_1, .int 0, .int 0, .ref q_3, .null, .int 0])), (q_1, .inl (k_2, 40, .inr (.inr (.inr (.inr (fun _ => none)))))), (q_3, .inl (k_4, 3020, .inl (fun _ => 0)))] H := hP
  have hD : va_D A [(d, .inr (1, [.ref h, .null, .ref q_1, .int 0, .int 0, .ref q_3, .null, .int 0])), (q_1, .inl (k_2, 40, .inr (.inr (.inr (.inr (fun _ => none)))))), (q_3, .inl (k_4, 3020, .inl (fun _ => 0)))] := hD
  refine lv_aload_n hx hb dX1_init_27 rfl (lv_at hl 0 rfl) ?_
  refine lv_aload_n hx hb dX1_init_28 rfl (lv_at hl 2 rfl) ?_
  refine va_putF (D := (dC, dI)) (ci := 1) (v := .ref y) (ty := (.object "OwnedPlaces$Types")) (C := RX1) (T := TX1) (N := 8) hx hb hts in_c_decl_X1 tyX1 tyX1_ok nmX1 hown hK hP hD hS 0 rfl rfl 1 (by decide) (hts (.fieldLink RX1 25 "OwnedPlaces$Declarations" "types" "LOwnedPlaces$Types;") (wm_c_decl 9 rfl)) (fun _ h9 => h9) rfl hin rfl (by decide +kernel) rfl rfl (Nat.le_of_ble_eq_true rfl) dX1_init_29 (fun H locs hP hD hS => ?_)
  have hP : va_P (dC, dI) vwCl [(d, .inr (1, [.ref h, .ref y, .ref q_1, .int 0, .int 0, .ref q_3, .null, .int 0])), (q_1, .inl (k_2, 40, .inr (.inr (.inr (.inr (fun _ => none)))))), (q_3, .inl (k_4, 3020, .inl (fun _ => 0)))] H := hP
  have hD : va_D A [(d, .inr (1, [.ref h, .ref y, .ref q_1, .int 0, .int 0, .ref q_3, .null, .int 0])), (q_1, .inl (k_2, 40, .inr (.inr (.inr (.inr (fun _ => none)))))), (q_3, .inl (k_4, 3020, .inl (fun _ => 0)))] := hD
  refine lv_iconst (v := 0) hx hb dX1_init_32 (by decide) ?_
  refine lv_istore_n (lv' := [(3, .int 0), (0, .ref d), (1, .ref h), (2, .ref y)]) hx hb dX1_init_33 rfl hl (by decide) rfl (fun ls hl => ?_)
  refine lv_iload_n hx hb dX1_init_34 rfl (lv_at hl 0 rfl) ?_
  refine lv_bipush (v := 40) hx hb dX1_init_35 (by decide) ?_
  refine lv_icmp_ge (tgt := 59) hx hb dX1_init_37 (by decide) (fun c_5 => absurd c_5 (by decide)) (fun _ => ?_)
  refine lv_aload_n hx hb dX1_init_40 rfl (lv_at hl 1 rfl) ?_
  refine va_get (D := (dC, dI)) (ci := 1) (v := .ref q_1) (C := RX1) (T := TX1) (N := 8) hx hb hts in_c_decl_X1 hown hK hP 0 rfl rfl 2 (by decide) (hts (.fieldLink RX1 11 "OwnedPlaces$Declarations" "functions" "[LOwnedPlaces$Function;") (wm_c_decl 5 rfl)) (fun _ h9 => h9) rfl dX1_init_41 ?_
  refine lv_iload_n hx hb dX1_init_44 rfl (lv_at hl 0 rfl) ?_
  refine va_new (ci := 2) (fs := [.int 0, .int 0, .int 0, .null, .int 0, .null, .int 0, .int 0, .int 0, .int 0, .null, .null, .null, .null, .null, .null, .int 0, .int 0, .int 0, .int 0, .int 0, .int 0]) (C := RX2) (T := TX2) (N := 22) hx hb hts in_c_decl_X2 tyX2 tyX2_ok hown (hts (.classLink RX1 9 RX2) (wm_c_decl 4 rfl)) (hts (.instantiable RX2 22) (wm_c_decl 10 rfl)) (hts (.initialized RX2) (wm_c_decl 11 rfl)) hK hP hD hS hA rfl dv_X2 (show 2 + 1 ≤ 362 by omega) (show 3060 + 22 ≤ 14340 by omega) dX1_init_45 (fun q_6 H hP hD hS => ?_)
  have hP : va_P (dC, dI) vwCl [(d, .inr (1, [.ref h, .ref y, .ref q_1, .int 0, .int 0, .ref q_3, .null, .int 0])), (q_1, .inl (k_2, 40, .inr (.inr (.inr (.inr (fun _ => none)))))), (q_3, .inl (k_4, 3020, .inl (fun _ => 0))), (q_6, .inr (2, [.int 0, .int 0, .int 0, .null, .int 0, .null, .int 0, .int 0, .int 0, .int 0, .null, .null, .null, .null, .null, .null, .int 0, .int 0, .int 0, .int 0, .int 0, .int 0]))] H := hP
  have hD : va_D A [(d, .inr (1, [.ref h, .ref y, .ref q_1, .int 0, .int 0, .ref q_3, .null, .int 0])), (q_1, .inl (k_2, 40, .inr (.inr (.inr (.inr (fun _ => none)))))), (q_3, .inl (k_4, 3020, .inl (fun _ => 0))), (q_6, .inr (2, [.int 0, .int 0, .int 0, .null, .int 0, .null, .int 0, .int 0, .int 0, .int 0, .null, .null, .null, .null, .null, .null, .int 0, .int 0, .int 0, .int 0, .int 0, .int 0]))] := hD
  refine W.widen (k := 3) (n := 3082) (by omega) (by omega) ?_
  refine lv_dup hx hb dX1_init_48 rfl ?_
  have hPc := hP.sub (ws' := [(q_6, .inr (2, [.int 0, .int 0, .int 0, .null, .int 0, .null, .int 0, .int 0, .int 0, .int 0, .null, .null, .null, .null, .null, .null, .int 0, .int 0, .int 0, .int 0, .int 0, .int 0]))]) [3] rfl
  have hDc := hD.sub (ws' := [(q_6, .inr (2, [.int 0, .int 0, .int 0, .null, .int 0, .null, .int 0, .int 0, .int 0, .int 0, .null, .null, .null, .null, .null, .null, .int 0, .int 0, .int 0, .int 0, .int 0, .int 0]))]) [3] (by decide) rfl
  have hKc := hK.sub (tys' := []) [] rfl
  have hFc := va_free (wc := [(q_6, .inr (2, [.int 0, .int 0, .int 0, .null, .int 0, .null, .int 0, .int 0, .int 0, .int 0, .null, .null, .null, .null, .null, .null, .int 0, .int 0, .int 0, .int 0, .int 0, .int 0]))]) hD hS hA [3] rfl
  refine va_callv (va_runIN (As := []) (rest := [.ref q_6, .int 0, .ref q_1]) ⟨hx, hb, hml, hown, hts⟩ (c_function l dC dI q_6 H.size) ⟨va_cnB 0 hts g_c_decl_c_function_49 rfl rfl rfl hpre0 (hts (.initialized RX2) (wm_c_decl 11 rfl)) (by decide +kernel) ⟨Nat.le_of_ble_eq_true rfl, Nat.le_of_ble_eq_true rfl⟩, rfl, (hts (.instanceMethod yX2_init) (wm_c_decl 23 rfl))⟩ ⟨fun a U g mk q => by obtain ⟨q0, q1, qP, qK, qD⟩ := q; exact ⟨q0, q1, qP, va_K.moved (u := U) (U := U.calling g mk a) (Vm.Alike.refl U.vm) qK, qD⟩, fun U hU hW => ⟨rfl, by rw [hU], by rw [hU]; exact hPc, va_K.moved hW.alike hKc, hDc.weaken (fun _ _ _ _ => trivial)⟩⟩ rfl rfl hl.1 rfl (lv_room (Nat.le_of_ble_eq_true rfl)) dX1_init_49 ⟨(show 3 + 8 ≤ 362 by omega), (show 3082 + 260 ≤ 14340 by omega)⟩) hS (fun q _ h => hFc q h) hFc (fun u tS H1 locs ht hvm hw hB hz1 hk1 hS => ?_)
  obtain ⟨q3_8, q5_9, q10_10, q11_11, q12_12, q13_13, q14_14, q15_15, hP1, hK1, hD1⟩ := hB
  rw [ht] at hP1
  have hK1 := va_K.moved hvm.symm hK1
  obtain ⟨hP, hD⟩ := va_join (wr := [(d, .inr (1, [.ref h, .ref y, .ref q_1, .int 0, .int 0, .ref q_3, .null, .int 0])), (q_1, .inl (k_2, 40, .inr (.inr (.inr (.inr (fun _ => none)))))), (q_3, .inl (k_4, 3020, .inl (fun _ => 0)))]) (w1 := [(q_6, .inr (2, [.int 0, .int 0, .int 0, .ref q3_8, .int 0, .ref q5_9, .int 0, .int 0, .int 0, .int 0, .ref q10_10, .ref q11_11, .ref q12_12, .ref q13_13, .ref q14_14, .ref q15_15, .int 0, .int 0, .int 0, .int 0, .int 0, .int 0]))]) hP hD [3] [0, 1, 2] rfl rfl (by decide) (by decide) hk1 hFc hP1 hD1
  generalize H1 = H at hP hS ⊢
  have hP : va_P (dC, dI) vwCl [(d, .inr (1, [.ref h, .ref y, .ref q_1, .int 0, .int 0, .ref q_3, .null, .int 0])), (q_1, .inl (k_2, 40, .inr (.inr (.inr (.inr (fun _ => none)))))), (q_3, .inl (k_4, 3020, .inl (fun _ => 0))), (q_6, .inr (2, [.int 0, .int 0, .int 0, .ref q3_8, .int 0, .ref q5_9, .int 0, .int 0, .int 0, .int 0, .ref q10_10, .ref q11_11, .ref q12_12, .ref q13_13, .ref q14_14, .ref q15_15, .int 0, .int 0, .int 0, .int 0, .int 0, .int 0]))] H := hP
  have hD : va_D A [(d, .inr (1, [.ref h, .ref y, .ref q_1, .int 0, .int 0, .ref q_3, .null, .int 0])), (q_1, .inl (k_2, 40, .inr (.inr (.inr (.inr (fun _ => none)))))), (q_3, .inl (k_4, 3020, .inl (fun _ => 0))), (q_6, .inr (2, [.int 0, .int 0, .int 0, .ref q3_8, .int 0, .ref q5_9, .int 0, .int 0, .int 0, .int 0, .ref q10_10, .ref q11_11, .ref q12_12, .ref q13_13, .ref q14_14, .ref q15_15, .int 0, .int 0, .int 0, .int 0, .int 0, .int 0]))] := hD
  have hK : va_K (dC, dI) vwCl [(k_2, .object RX2), (k_4, .int)] s := hK
  refine W.widen (k := 11) (n := 3342) (by omega) (by omega) ?_
  refine va_astq hx hb hK hP hD hS 1 0 3 2 rfl rfl rfl rfl (by unfold vp_in; decide) dX1_init_52 (fun H locs hP hD hS => ?_)
  have hP : va_P (dC, dI) vwCl [(d, .inr (1, [.ref h, .ref y, .ref q_1, .int 0, .int 0, .ref q_3, .null, .int 0])), (q_1, .inl (k_2, 40, .inr (.inr (.inr (.inr (va_up (fun _ => none) (0 : Int32).toNatClampNeg (some q_6))))))), (q_3, .inl (k_4, 3020, .inl (fun _ => 0))), (q_6, .inr (2, [.int 0, .int 0, .int 0, .ref q3_8, .int 0, .ref q5_9, .int 0, .int 0, .int 0, .int 0, .ref q10_10, .ref q11_11, .ref q12_12, .ref q13_13, .ref q14_14, .ref q15_15, .int 0, .int 0, .int 0, .int 0, .int 0, .int 0]))] H := hP
  have hD : va_D A [(d, .inr (1, [.ref h, .ref y, .ref q_1, .int 0, .int 0, .ref q_3, .null, .int 0])), (q_1, .inl (k_2, 40, .inr (.inr (.inr (.inr (va_up (fun _ => none) (0 : Int32).toNatClampNeg (some q_6))))))), (q_3, .inl (k_4, 3020, .inl (fun _ => 0))), (q_6, .inr (2, [.int 0, .int 0, .int 0, .ref q3_8, .int 0, .ref q5_9, .int 0, .int 0, .int 0, .int 0, .ref q10_10, .ref q11_11, .ref q12_12, .ref q13_13, .ref q14_14, .ref q15_15, .int 0, .int 0, .int 0, .int 0, .int 0, .int 0]))] := hD
  obtain ⟨fa0, efa0⟩ : ∃ z : Nat → Option Nat, z = va_up (fun _ => none) (0 : Int32).toNatClampNeg (some q_6) := ⟨_, rfl⟩
  rw [← efa0] at hP hD
  have hP := hP.sub (ws' := [(d, .inr (1, [.ref h, .ref y, .ref q_1, .int 0, .int 0, .ref q_3, .null, .int 0])), (q_1, .inl (k_2, 40, .inr (.inr (.inr (.inr fa0))))), (q_3, .inl (k_4, 3020, .inl (fun _ => 0)))]) [0, 1, 2] rfl
  have hD := hD.sub (ws' := [(d, .inr (1, [.ref h, .ref y, .ref q_1, .int 0, .int 0, .ref q_3, .null, .int 0])), (q_1, .inl (k_2, 40, .inr (.inr (.inr (.inr fa0))))), (q_3, .inl (k_4, 3020, .inl (fun _ => 0)))]) [0, 1, 2] (by decide) rfl
  have hK := hK.sub (tys' := [(k_2, .object RX2), (k_4, .int)]) [0, 1] rfl
  refine lv_iinc (v := 1) (lv' := [(3, .int 1), (0, .ref d), (1, .ref h), (2, .ref y)]) hx hb dX1_init_53 hl (k := 0) rfl (by decide) (by decide) rfl (fun ls hl => ?_)
  refine lv_goto (tgt := 34) hx hb dX1_init_56 (by decide) ?_
  refine lv_iload_n hx hb dX1_init_34 rfl (lv_at hl 0 rfl) ?_
  refine lv_bipush (v := 40) hx hb dX1_init_35 (by decide) ?_
  refine lv_icmp_ge (tgt := 59) hx hb dX1_init_37 (by decide) (fun c_16 => absurd c_16 (by decide)) (fun _ => ?_)
  refine lv_aload_n hx hb dX1_init_40 rfl (lv_at hl 1 rfl) ?_
  refine va_get (D := (dC, dI)) (ci := 1) (v := .ref q_1) (C := RX1) (T := TX1) (N := 8) hx hb hts in_c_decl_X1 hown hK hP 0 rfl rfl 2 (by decide) (hts (.fieldLink RX1 11 "OwnedPlaces$Declarations" "functions" "[LOwnedPlaces$Function;") (wm_c_decl 5 rfl)) (fun _ h9 => h9) rfl dX1_init_41 ?_
  refine lv_iload_n hx hb dX1_init_44 rfl (lv_at hl 0 rfl) ?_
  refine va_new (ci := 2) (fs := [.int 0, .int 0, .int 0, .null, .int 0, .null, .int 0, .int 0, .int 0, .int 0, .null, .null, .null, .null, .null, .null, .int 0, .int 0, .int 0, .int 0, .int 0, .int 0]) (C := RX2) (T := TX2) (N := 22) hx hb hts in_c_decl_X2 tyX2 tyX2_ok hown (hts (.classLink RX1 9 RX2) (wm_c_decl 4 rfl)) (hts (.instantiable RX2 22) (wm_c_decl 10 rfl)) (hts (.initialized RX2) (wm_c_decl 11 rfl)) hK hP hD hS hA rfl dv_X2 (show 11 + 1 ≤ 362 by omega) (show 3342 + 22 ≤ 14340 by omega) dX1_init_45 (fun q_17 H hP hD hS => ?_)
  have hP : va_P (dC, dI) vwCl [(d, .inr (1, [.ref h, .ref y, .ref q_1, .int 0, .int 0, .ref q_3, .null, .int 0])), (q_1, .inl (k_2, 40, .inr (.inr (.inr (.inr fa0))))), (q_3, .inl (k_4, 3020, .inl (fun _ => 0))), (q_17, .inr (2, [.int 0, .int 0, .int 0, .null, .int 0, .null, .int 0, .int 0, .int 0, .int 0, .null, .null, .null, .null, .null, .null, .int 0, .int 0, .int 0, .int 0, .int 0, .int 0]))] H := hP
  have hD : va_D A [(d, .inr (1, [.ref h, .ref y, .ref q_1, .int 0, .int 0, .ref q_3, .null, .int 0])), (q_1, .inl (k_2, 40, .inr (.inr (.inr (.inr fa0))))), (q_3, .inl (k_4, 3020, .inl (fun _ => 0))), (q_17, .inr (2, [.int 0, .int 0, .int 0, .null, .int 0, .null, .int 0, .int 0, .int 0, .int 0, .null, .null, .null, .null, .null, .null, .int 0, .int 0, .int 0, .int 0, .int 0, .int 0]))] := hD
  refine W.widen (k := 12) (n := 3364) (by omega) (by omega) ?_
  refine lv_dup hx hb dX1_init_48 rfl ?_
  have hPc := hP.sub (ws' := [(q_17, .inr (2, [.int 0, .int 0, .int 0, .null, .int 0, .null, .int 0, .int 0, .int 0, .int 0, .null, .null, .null, .null, .null, .null, .int 0, .int 0, .int 0, .int 0, .int 0, .int 0]))]) [3] rfl
  have hDc := hD.sub (ws' := [(q_17, .inr (2, [.int 0, .int 0, .int 0, .null, .int 0, .null, .int 0, .int 0, .int 0, .int 0, .null, .null, .null, .null, .null, .null, .int 0, .int 0, .int 0, .int 0, .int 0, .int 0]))]) [3] (by decide) rfl
  have hKc := hK.sub (tys' := []) [] rfl
  have hFc := va_free (wc := [(q_17, .inr (2, [.int 0, .int 0, .int 0, .null, .int 0, .null, .int 0, .int 0, .int 0, .int 0, .null, .null, .null, .null, .null, .null, .int 0, .int 0, .int 0, .int 0, .int 0, .int 0]))]) hD hS hA [3] rfl
  refine va_callv (va_runIN (As := []) (rest := [.ref q_17, .int 1, .ref q_1]) ⟨hx, hb, hml, hown, hts⟩ (c_function l dC dI q_17 H.size) ⟨va_cnB 0 hts g_c_decl_c_function_49 rfl rfl rfl hpre0 (hts (.initialized RX2) (wm_c_decl 11 rfl)) (by decide +kernel) ⟨Nat.le_of_ble_eq_true rfl, Nat.le_of_ble_eq_true rfl⟩, rfl, (hts (.instanceMethod yX2_init) (wm_c_decl 23 rfl))⟩ ⟨fun a U g mk q => by obtain ⟨q0, q1, qP, qK, qD⟩ := q; exact ⟨q0, q1, qP, va_K.moved (u := U) (U := U.calling g mk a) (Vm.Alike.refl U.vm) qK, qD⟩, fun U hU hW => ⟨rfl, by rw [hU], by rw [hU]; exact hPc, va_K.moved hW.alike hKc, hDc.weaken (fun _ _ _ _ => trivial)⟩⟩ rfl rfl hl.1 rfl (lv_room (Nat.le_of_ble_eq_true rfl)) dX1_init_49 ⟨(show 12 + 8 ≤ 362 by omega), (show 3364 + 260 ≤ 14340 by omega)⟩) hS (fun q _ h => hFc q h) hFc (fun u tS H1 locs ht hvm hw hB hz1 hk1 hS => ?_)
  obtain ⟨q3_19, q5_20, q10_21, q11_22, q12_23, q13_24, q14_25, q15_26, hP1, hK1, hD1⟩ := hB
  rw [ht] at hP1
  have hK1 := va_K.moved hvm.symm hK1
  obtain ⟨hP, hD⟩ := va_join (wr := [(d, .inr (1, [.ref h, .ref y, .ref q_1, .int 0, .int 0, .ref q_3, .null, .int 0])), (q_1, .inl (k_2, 40, .inr (.inr (.inr (.inr fa0))))), (q_3, .inl (k_4, 3020, .inl (fun _ => 0)))]) (w1 := [(q_17, .inr (2, [.int 0, .int 0, .int 0, .ref q3_19, .int 0, .ref q5_20, .int 0, .int 0, .int 0, .int 0, .ref q10_21, .ref q11_22, .ref q12_23, .ref q13_24, .ref q14_25, .ref q15_26, .int 0, .int 0, .int 0, .int 0, .int 0, .int 0]))]) hP hD [3] [0, 1, 2] rfl rfl (by decide) (by decide) hk1 hFc hP1 hD1
  generalize H1 = H at hP hS ⊢
  have hP : va_P (dC, dI) vwCl [(d, .inr (1, [.ref h, .ref y, .ref q_1, .int 0, .int 0, .ref q_3, .null, .int 0])), (q_1, .inl (k_2, 40, .inr (.inr (.inr (.inr fa0))))), (q_3, .inl (k_4, 3020, .inl (fun _ => 0))), (q_17, .inr (2, [.int 0, .int 0, .int 0, .ref q3_19, .int 0, .ref q5_20, .int 0, .int 0, .int 0, .int 0, .ref q10_21, .ref q11_22, .ref q12_23, .ref q13_24, .ref q14_25, .ref q15_26, .int 0, .int 0, .int 0, .int 0, .int 0, .int 0]))] H := hP
  have hD : va_D A [(d, .inr (1, [.ref h, .ref y, .ref q_1, .int 0, .int 0, .ref q_3, .null, .int 0])), (q_1, .inl (k_2, 40, .inr (.inr (.inr (.inr fa0))))), (q_3, .inl (k_4, 3020, .inl (fun _ => 0))), (q_17, .inr (2, [.int 0, .int 0, .int 0, .ref q3_19, .int 0, .ref q5_20, .int 0, .int 0, .int 0, .int 0, .ref q10_21, .ref q11_22, .ref q12_23, .ref q13_24, .ref q14_25, .ref q15_26, .int 0, .int 0, .int 0, .int 0, .int 0, .int 0]))] := hD
  have hK : va_K (dC, dI) vwCl [(k_2, .object RX2), (k_4, .int)] s := hK
  refine W.widen (k := 20) (n := 3624) (by omega) (by omega) ?_
  refine va_astq hx hb hK hP hD hS 1 0 3 2 rfl rfl rfl rfl (by unfold vp_in; decide) dX1_init_52 (fun H locs hP hD hS => ?_)
  have hP : va_P (dC, dI) vwCl [(d, .inr (1, [.ref h, .ref y, .ref q_1, .int 0, .int 0, .ref q_3, .null, .int 0])), (q_1, .inl (k_2, 40, .inr (.inr (.inr (.inr (va_up fa0 (1 : Int32).toNatClampNeg (some q_17))))))), (q_3, .inl (k_4, 3020, .inl (fun _ => 0))), (q_17, .inr (2, [.int 0, .int 0, .int 0, .ref q3_19, .int 0, .ref q5_20, .int 0, .int 0, .int 0, .int 0, .ref q10_21, .ref q11_22, .ref q12_23, .ref q13_24, .ref q14_25, .ref q15_26, .int 0, .int 0, .int 0, .int 0, .int 0, .int 0]))] H := hP
  have hD : va_D A [(d, .inr (1, [.ref h, .ref y, .ref q_1, .int 0, .int 0, .ref q_3, .null, .int 0])), (q_1, .inl (k_2, 40, .inr (.inr (.inr (.inr (va_up fa0 (1 : Int32).toNatClampNeg (some q_17))))))), (q_3, .inl (k_4, 3020, .inl (fun _ => 0))), (q_17, .inr (2, [.int 0, .int 0, .int 0, .ref q3_19, .int 0, .ref q5_20, .int 0, .int 0, .int 0, .int 0, .ref q10_21, .ref q11_22, .ref q12_23, .ref q13_24, .ref q14_25, .ref q15_26, .int 0, .int 0, .int 0, .int 0, .int 0, .int 0]))] := hD
  obtain ⟨fa1, efa1⟩ : ∃ z : Nat → Option Nat, z = va_up fa0 (1 : Int32).toNatClampNeg (some q_17) := ⟨_, rfl⟩
  rw [← efa1] at hP hD
  have hP := hP.sub (ws' := [(d, .inr (1, [.ref h, .ref y, .ref q_1, .int 0, .int 0, .ref q_3, .null, .int 0])), (q_1, .inl (k_2, 40, .inr (.inr (.inr (.inr fa1))))), (q_3, .inl (k_4, 3020, .inl (fun _ => 0)))]) [0, 1, 2] rfl
  have hD := hD.sub (ws' := [(d, .inr (1, [.ref h, .ref y, .ref q_1, .int 0, .int 0, .ref q_3, .null, .int 0])), (q_1, .inl (k_2, 40, .inr (.inr (.inr (.inr fa1))))), (q_3, .inl (k_4, 3020, .inl (fun _ => 0)))]) [0, 1, 2] (by decide) rfl
  have hK := hK.sub (tys' := [(k_2, .object RX2), (k_4, .int)]) [0, 1] rfl
  refine lv_iinc (v := 2) (lv' := [(3, .int 2), (0, .ref d), (1, .ref h), (2, .ref y)]) hx hb dX1_init_53 hl (k := 0) rfl (by decide) (by decide) rfl (fun ls hl => ?_)
  refine lv_goto (tgt := 34) hx hb dX1_init_56 (by decide) ?_
  refine lv_iload_n hx hb dX1_init_34 rfl (lv_at hl 0 rfl) ?_
  refine lv_bipush (v := 40) hx hb dX1_init_35 (by decide) ?_
  refine lv_icmp_ge (tgt := 59) hx hb dX1_init_37 (by decide) (fun c_27 => absurd c_27 (by decide)) (fun _ => ?_)
  refine lv_aload_n hx hb dX1_init_40 rfl (lv_at hl 1 rfl) ?_
  refine va_get (D := (dC, dI)) (ci := 1) (v := .ref q_1) (C := RX1) (T := TX1) (N := 8) hx hb hts in_c_decl_X1 hown hK hP 0 rfl rfl 2 (by decide) (hts (.fieldLink RX1 11 "OwnedPlaces$Declarations" "functions" "[LOwnedPlaces$Function;") (wm_c_decl 5 rfl)) (fun _ h9 => h9) rfl dX1_init_41 ?_
  refine lv_iload_n hx hb dX1_init_44 rfl (lv_at hl 0 rfl) ?_
  refine va_new (ci := 2) (fs := [.int 0, .int 0, .int 0, .null, .int 0, .null, .int 0, .int 0, .int 0, .int 0, .null, .null, .null, .null, .null, .null, .int 0, .int 0, .int 0, .int 0, .int 0, .int 0]) (C := RX2) (T := TX2) (N := 22) hx hb hts in_c_decl_X2 tyX2 tyX2_ok hown (hts (.classLink RX1 9 RX2) (wm_c_decl 4 rfl)) (hts (.instantiable RX2 22) (wm_c_decl 10 rfl)) (hts (.initialized RX2) (wm_c_decl 11 rfl)) hK hP hD hS hA rfl dv_X2 (show 20 + 1 ≤ 362 by omega) (show 3624 + 22 ≤ 14340 by omega) dX1_init_45 (fun q_28 H hP hD hS => ?_)
  have hP : va_P (dC, dI) vwCl [(d, .inr (1, [.ref h, .ref y, .ref q_1, .int 0, .int 0, .ref q_3, .null, .int 0])), (q_1, .inl (k_2, 40, .inr (.inr (.inr (.inr fa1))))), (q_3, .inl (k_4, 3020, .inl (fun _ => 0))), (q_28, .inr (2, [.int 0, .int 0, .int 0, .null, .int 0, .null, .int 0, .int 0, .int 0, .int 0, .null, .null, .null, .null, .null, .null, .int 0, .int 0, .int 0, .int 0, .int 0, .int 0]))] H := hP
  have hD : va_D A [(d, .inr (1, [.ref h, .ref y, .ref q_1, .int 0, .int 0, .ref q_3, .null, .int 0])), (q_1, .inl (k_2, 40, .inr (.inr (.inr (.inr fa1))))), (q_3, .inl (k_4, 3020, .inl (fun _ => 0))), (q_28, .inr (2, [.int 0, .int 0, .int 0, .null, .int 0, .null, .int 0, .int 0, .int 0, .int 0, .null, .null, .null, .null, .null, .null, .int 0, .int 0, .int 0, .int 0, .int 0, .int 0]))] := hD
  refine W.widen (k := 21) (n := 3646) (by omega) (by omega) ?_
  refine lv_dup hx hb dX1_init_48 rfl ?_
  have hPc := hP.sub (ws' := [(q_28, .inr (2, [.int 0, .int 0, .int 0, .null, .int 0, .null, .int 0, .int 0, .int 0, .int 0, .null, .null, .null, .null, .null, .null, .int 0, .int 0, .int 0, .int 0, .int 0, .int 0]))]) [3] rfl
  have hDc := hD.sub (ws' := [(q_28, .inr (2, [.int 0, .int 0, .int 0, .null, .int 0, .null, .int 0, .int 0, .int 0, .int 0, .null, .null, .null, .null, .null, .null, .int 0, .int 0, .int 0, .int 0, .int 0, .int 0]))]) [3] (by decide) rfl
  have hKc := hK.sub (tys' := []) [] rfl
  have hFc := va_free (wc := [(q_28, .inr (2, [.int 0, .int 0, .int 0, .null, .int 0, .null, .int 0, .int 0, .int 0, .int 0, .null, .null, .null, .null, .null, .null, .int 0, .int 0, .int 0, .int 0, .int 0, .int 0]))]) hD hS hA [3] rfl
  refine va_callv (va_runIN (As := []) (rest := [.ref q_28, .int 2, .ref q_1]) ⟨hx, hb, hml, hown, hts⟩ (c_function l dC dI q_28 H.size) ⟨va_cnB 0 hts g_c_decl_c_function_49 rfl rfl rfl hpre0 (hts (.initialized RX2) (wm_c_decl 11 rfl)) (by decide +kernel) ⟨Nat.le_of_ble_eq_true rfl, Nat.le_of_ble_eq_true rfl⟩, rfl, (hts (.instanceMethod yX2_init) (wm_c_decl 23 rfl))⟩ ⟨fun a U g mk q => by obtain ⟨q0, q1, qP, qK, qD⟩ := q; exact ⟨q0, q1, qP, va_K.moved (u := U) (U := U.calling g mk a) (Vm.Alike.refl U.vm) qK, qD⟩, fun U hU hW => ⟨rfl, by rw [hU], by rw [hU]; exact hPc, va_K.moved hW.alike hKc, hDc.weaken (fun _ _ _ _ => trivial)⟩⟩ rfl rfl hl.1 rfl (lv_room (Nat.le_of_ble_eq_true rfl)) dX1_init_49 ⟨(show 21 + 8 ≤ 362 by omega), (show 3646 + 260 ≤ 14340 by omega)⟩) hS (fun q _ h => hFc q h) hFc (fun u tS H1 locs ht hvm hw hB hz1 hk1 hS => ?_)
  obtain ⟨q3_30, q5_31, q10_32, q11_33, q12_34, q13_35, q14_36, q15_37, hP1, hK1, hD1⟩ := hB
  rw [ht] at hP1
  have hK1 := va_K.moved hvm.symm hK1
  obtain ⟨hP, hD⟩ := va_join (wr := [(d, .inr (1, [.ref h, .ref y, .ref q_1, .int 0, .int 0, .ref q_3, .null, .int 0])), (q_1, .inl (k_2, 40, .inr (.inr (.inr (.inr fa1))))), (q_3, .inl (k_4, 3020, .inl (fun _ => 0)))]) (w1 := [(q_28, .inr (2, [.int 0, .int 0, .int 0, .ref q3_30, .int 0, .ref q5_31, .int 0, .int 0, .int 0, .int 0, .ref q10_32, .ref q11_33, .ref q12_34, .ref q13_35, .ref q14_36, .ref q15_37, .int 0, .int 0, .int 0, .int 0, .int 0, .int 0]))]) hP hD [3] [0, 1, 2] rfl rfl (by decide) (by decide) hk1 hFc hP1 hD1
  generalize H1 = H at hP hS ⊢
  have hP : va_P (dC, dI) vwCl [(d, .inr (1, [.ref h, .ref y, .ref q_1, .int 0, .int 0, .ref q_3, .null, .int 0])), (q_1, .inl (k_2, 40, .inr (.inr (.inr (.inr fa1))))), (q_3, .inl (k_4, 3020, .inl (fun _ => 0))), (q_28, .inr (2, [.int 0, .int 0, .int 0, .ref q3_30, .int 0, .ref q5_31, .int 0, .int 0, .int 0, .int 0, .ref q10_32, .ref q11_33, .ref q12_34, .ref q13_35, .ref q14_36, .ref q15_37, .int 0, .int 0, .int 0, .int 0, .int 0, .int 0]))] H := hP
  have hD : va_D A [(d, .inr (1, [.ref h, .ref y, .ref q_1, .int 0, .int 0, .ref q_3, .null, .int 0])), (q_1, .inl (k_2, 40, .inr (.inr (.inr (.inr fa1))))), (q_3, .inl (k_4, 3020, .inl (fun _ => 0))), (q_28, .inr (2, [.int 0, .int 0, .int 0, .ref q3_30, .int 0, .ref q5_31, .int 0, .int 0, .int 0, .int 0, .ref q10_32, .ref q11_33, .ref q12_34, .ref q13_35, .ref q14_36, .ref q15_37, .int 0, .int 0, .int 0, .int 0, .int 0, .int 0]))] := hD
  have hK : va_K (dC, dI) vwCl [(k_2, .object RX2), (k_4, .int)] s := hK
  refine W.widen (k := 29) (n := 3906) (by omega) (by omega) ?_
  refine va_astq hx hb hK hP hD hS 1 0 3 2 rfl rfl rfl rfl (by unfold vp_in; decide) dX1_init_52 (fun H locs hP hD hS => ?_)
  have hP : va_P (dC, dI) vwCl [(d, .inr (1, [.ref h, .ref y, .ref q_1, .int 0, .int 0, .ref q_3, .null, .int 0])), (q_1, .inl (k_2, 40, .inr (.inr (.inr (.inr (va_up fa1 (2 : Int32).toNatClampNeg (some q_28))))))), (q_3, .inl (k_4, 3020, .inl (fun _ => 0))), (q_28, .inr (2, [.int 0, .int 0, .int 0, .ref q3_30, .int 0, .ref q5_31, .int 0, .int 0, .int 0, .int 0, .ref q10_32, .ref q11_33, .ref q12_34, .ref q13_35, .ref q14_36, .ref q15_37, .int 0, .int 0, .int 0, .int 0, .int 0, .int 0]))] H := hP
  have hD : va_D A [(d, .inr (1, [.ref h, .ref y, .ref q_1, .int 0, .int 0, .ref q_3, .null, .int 0])), (q_1, .inl (k_2, 40, .inr (.inr (.inr (.inr (va_up fa1 (2 : Int32).toNatClampNeg (some q_28))))))), (q_3, .inl (k_4, 3020, .inl (fun _ => 0))), (q_28, .inr (2, [.int 0, .int 0, .int 0, .ref q3_30, .int 0, .ref q5_31, .int 0, .int 0, .int 0, .int 0, .ref q10_32, .ref q11_33, .ref q12_34, .ref q13_35, .ref q14_36, .ref q15_37, .int 0, .int 0, .int 0, .int 0, .int 0, .int 0]))] := hD
  obtain ⟨fa2, efa2⟩ : ∃ z : Nat → Option Nat, z = va_up fa1 (2 : Int32).toNatClampNeg (some q_28) := ⟨_, rfl⟩
  rw [← efa2] at hP hD
  have hP := hP.sub (ws' := [(d, .inr (1, [.ref h, .ref y, .ref q_1, .int 0, .int 0, .ref q_3, .null, .int 0])), (q_1, .inl (k_2, 40, .inr (.inr (.inr (.inr fa2))))), (q_3, .inl (k_4, 3020, .inl (fun _ => 0)))]) [0, 1, 2] rfl
  have hD := hD.sub (ws' := [(d, .inr (1, [.ref h, .ref y, .ref q_1, .int 0, .int 0, .ref q_3, .null, .int 0])), (q_1, .inl (k_2, 40, .inr (.inr (.inr (.inr fa2))))), (q_3, .inl (k_4, 3020, .inl (fun _ => 0)))]) [0, 1, 2] (by decide) rfl
  have hK := hK.sub (tys' := [(k_2, .object RX2), (k_4, .int)]) [0, 1] rfl
  refine lv_iinc (v := 3) (lv' := [(3, .int 3), (0, .ref d), (1, .ref h), (2, .ref y)]) hx hb dX1_init_53 hl (k := 0) rfl (by decide) (by decide) rfl (fun ls hl => ?_)
  refine lv_goto (tgt := 34) hx hb dX1_init_56 (by decide) ?_
  refine lv_iload_n hx hb dX1_init_34 rfl (lv_at hl 0 rfl) ?_
  refine lv_bipush (v := 40) hx hb dX1_init_35 (by decide) ?_
  refine lv_icmp_ge (tgt := 59) hx hb dX1_init_37 (by decide) (fun c_38 => absurd c_38 (by decide)) (fun _ => ?_)
  refine lv_aload_n hx hb dX1_init_40 rfl (lv_at hl 1 rfl) ?_
  refine va_get (D := (dC, dI)) (ci := 1) (v := .ref q_1) (C := RX1) (T := TX1) (N := 8) hx hb hts in_c_decl_X1 hown hK hP 0 rfl rfl 2 (by decide) (hts (.fieldLink RX1 11 "OwnedPlaces$Declarations" "functions" "[LOwnedPlaces$Function;") (wm_c_decl 5 rfl)) (fun _ h9 => h9) rfl dX1_init_41 ?_
  refine lv_iload_n hx hb dX1_init_44 rfl (lv_at hl 0 rfl) ?_
  refine va_new (ci := 2) (fs := [.int 0, .int 0, .int 0, .null, .int 0, .null, .int 0, .int 0, .int 0, .int 0, .null, .null, .null, .null, .null, .null, .int 0, .int 0, .int 0, .int 0, .int 0, .int 0]) (C := RX2) (T := TX2) (N := 22) hx hb hts in_c_decl_X2 tyX2 tyX2_ok hown (hts (.classLink RX1 9 RX2) (wm_c_decl 4 rfl)) (hts (.instantiable RX2 22) (wm_c_decl 10 rfl)) (hts (.initialized RX2) (wm_c_decl 11 rfl)) hK hP hD hS hA rfl dv_X2 (show 29 + 1 ≤ 362 by omega) (show 3906 + 22 ≤ 14340 by omega) dX1_init_45 (fun q_39 H hP hD hS => ?_)
  have hP : va_P (dC, dI) vwCl [(d, .inr (1, [.ref h, .ref y, .ref q_1, .int 0, .int 0, .ref q_3, .null, .int 0])), (q_1, .inl (k_2, 40, .inr (.inr (.inr (.inr fa2))))), (q_3, .inl (k_4, 3020, .inl (fun _ => 0))), (q_39, .inr (2, [.int 0, .int 0, .int 0, .null, .int 0, .null, .int 0, .int 0, .int 0, .int 0, .null, .null, .null, .null, .null, .null, .int 0, .int 0, .int 0, .int 0, .int 0, .int 0]))] H := hP
  have hD : va_D A [(d, .inr (1, [.ref h, .ref y, .ref q_1, .int 0, .int 0, .ref q_3, .null, .int 0])), (q_1, .inl (k_2, 40, .inr (.inr (.inr (.inr fa2))))), (q_3, .inl (k_4, 3020, .inl (fun _ => 0))), (q_39, .inr (2, [.int 0, .int 0, .int 0, .null, .int 0, .null, .int 0, .int 0, .int 0, .int 0, .null, .null, .null, .null, .null, .null, .int 0, .int 0, .int 0, .int 0, .int 0, .int 0]))] := hD
  refine W.widen (k := 30) (n := 3928) (by omega) (by omega) ?_
  refine lv_dup hx hb dX1_init_48 rfl ?_
  have hPc := hP.sub (ws' := [(q_39, .inr (2, [.int 0, .int 0, .int 0, .null, .int 0, .null, .int 0, .int 0, .int 0, .int 0, .null, .null, .null, .null, .null, .null, .int 0, .int 0, .int 0, .int 0, .int 0, .int 0]))]) [3] rfl
  have hDc := hD.sub (ws' := [(q_39, .inr (2, [.int 0, .int 0, .int 0, .null, .int 0, .null, .int 0, .int 0, .int 0, .int 0, .null, .null, .null, .null, .null, .null, .int 0, .int 0, .int 0, .int 0, .int 0, .int 0]))]) [3] (by decide) rfl
  have hKc := hK.sub (tys' := []) [] rfl
  have hFc := va_free (wc := [(q_39, .inr (2, [.int 0, .int 0, .int 0, .null, .int 0, .null, .int 0, .int 0, .int 0, .int 0, .null, .null, .null, .null, .null, .null, .int 0, .int 0, .int 0, .int 0, .int 0, .int 0]))]) hD hS hA [3] rfl
  refine va_callv (va_runIN (As := []) (rest := [.ref q_39, .int 3, .ref q_1]) ⟨hx, hb, hml, hown, hts⟩ (c_function l dC dI q_39 H.size) ⟨va_cnB 0 hts g_c_decl_c_function_49 rfl rfl rfl hpre0 (hts (.initialized RX2) (wm_c_decl 11 rfl)) (by decide +kernel) ⟨Nat.le_of_ble_eq_true rfl, Nat.le_of_ble_eq_true rfl⟩, rfl, (hts (.instanceMethod yX2_init) (wm_c_decl 23 rfl))⟩ ⟨fun a U g mk q => by obtain ⟨q0, q1, qP, qK, qD⟩ := q; exact ⟨q0, q1, qP, va_K.moved (u := U) (U := U.calling g mk a) (Vm.Alike.refl U.vm) qK, qD⟩, fun U hU hW => ⟨rfl, by rw [hU], by rw [hU]; exact hPc, va_K.moved hW.alike hKc, hDc.weaken (fun _ _ _ _ => trivial)⟩⟩ rfl rfl hl.1 rfl (lv_room (Nat.le_of_ble_eq_true rfl)) dX1_init_49 ⟨(show 30 + 8 ≤ 362 by omega), (show 3928 + 260 ≤ 14340 by omega)⟩) hS (fun q _ h => hFc q h) hFc (fun u tS H1 locs ht hvm hw hB hz1 hk1 hS => ?_)
  obtain ⟨q3_41, q5_42, q10_43, q11_44, q12_45, q13_46, q14_47, q15_48, hP1, hK1, hD1⟩ := hB
  rw [ht] at hP1
  have hK1 := va_K.moved hvm.symm hK1
  obtain ⟨hP, hD⟩ := va_join (wr := [(d, .inr (1, [.ref h, .ref y, .ref q_1, .int 0, .int 0, .ref q_3, .null, .int 0])), (q_1, .inl (k_2, 40, .inr (.inr (.inr (.inr fa2))))), (q_3, .inl (k_4, 3020, .inl (fun _ => 0)))]) (w1 := [(q_39, .inr (2, [.int 0, .int 0, .int 0, .ref q3_41, .int 0, .ref q5_42, .int 0, .int 0, .int 0, .int 0, .ref q10_43, .ref q11_44, .ref q12_45, .ref q13_46, .ref q14_47, .ref q15_48, .int 0, .int 0, .int 0, .int 0, .int 0, .int 0]))]) hP hD [3] [0, 1, 2] rfl rfl (by decide) (by decide) hk1 hFc hP1 hD1
  generalize H1 = H at hP hS ⊢
  have hP : va_P (dC, dI) vwCl [(d, .inr (1, [.ref h, .ref y, .ref q_1, .int 0, .int 0, .ref q_3, .null, .int 0])), (q_1, .inl (k_2, 40, .inr (.inr (.inr (.inr fa2))))), (q_3, .inl (k_4, 3020, .inl (fun _ => 0))), (q_39, .inr (2, [.int 0, .int 0, .int 0, .ref q3_41, .int 0, .ref q5_42, .int 0, .int 0, .int 0, .int 0, .ref q10_43, .ref q11_44, .ref q12_45, .ref q13_46, .ref q14_47, .ref q15_48, .int 0, .int 0, .int 0, .int 0, .int 0, .int 0]))] H := hP
  have hD : va_D A [(d, .inr (1, [.ref h, .ref y, .ref q_1, .int 0, .int 0, .ref q_3, .null, .int 0])), (q_1, .inl (k_2, 40, .inr (.inr (.inr (.inr fa2))))), (q_3, .inl (k_4, 3020, .inl (fun _ => 0))), (q_39, .inr (2, [.int 0, .int 0, .int 0, .ref q3_41, .int 0, .ref q5_42, .int 0, .int 0, .int 0, .int 0, .ref q10_43, .ref q11_44, .ref q12_45, .ref q13_46, .ref q14_47, .ref q15_48, .int 0, .int 0, .int 0, .int 0, .int 0, .int 0]))] := hD
  have hK : va_K (dC, dI) vwCl [(k_2, .object RX2), (k_4, .int)] s := hK
  refine W.widen (k := 38) (n := 4188) (by omega) (by omega) ?_
  refine va_astq hx hb hK hP hD hS 1 0 3 2 rfl rfl rfl rfl (by unfold vp_in; decide) dX1_init_52 (fun H locs hP hD hS => ?_)
  have hP : va_P (dC, dI) vwCl [(d, .inr (1, [.ref h, .ref y, .ref q_1, .int 0, .int 0, .ref q_3, .null, .int 0])), (q_1, .inl (k_2, 40, .inr (.inr (.inr (.inr (va_up fa2 (3 : Int32).toNatClampNeg (some q_39))))))), (q_3, .inl (k_4, 3020, .inl (fun _ => 0))), (q_39, .inr (2, [.int 0, .int 0, .int 0, .ref q3_41, .int 0, .ref q5_42, .int 0, .int 0, .int 0, .int 0, .ref q10_43, .ref q11_44, .ref q12_45, .ref q13_46, .ref q14_47, .ref q15_48, .int 0, .int 0, .int 0, .int 0, .int 0, .int 0]))] H := hP
  have hD : va_D A [(d, .inr (1, [.ref h, .ref y, .ref q_1, .int 0, .int 0, .ref q_3, .null, .int 0])), (q_1, .inl (k_2, 40, .inr (.inr (.inr (.inr (va_up fa2 (3 : Int32).toNatClampNeg (some q_39))))))), (q_3, .inl (k_4, 3020, .inl (fun _ => 0))), (q_39, .inr (2, [.int 0, .int 0, .int 0, .ref q3_41, .int 0, .ref q5_42, .int 0, .int 0, .int 0, .int 0, .ref q10_43, .ref q11_44, .ref q12_45, .ref q13_46, .ref q14_47, .ref q15_48, .int 0, .int 0, .int 0, .int 0, .int 0, .int 0]))] := hD
  obtain ⟨fa3, efa3⟩ : ∃ z : Nat → Option Nat, z = va_up fa2 (3 : Int32).toNatClampNeg (some q_39) := ⟨_, rfl⟩
  rw [← efa3] at hP hD
  have hP := hP.sub (ws' := [(d, .inr (1, [.ref h, .ref y, .ref q_1, .int 0, .int 0, .ref q_3, .null, .int 0])), (q_1, .inl (k_2, 40, .inr (.inr (.inr (.inr fa3))))), (q_3, .inl (k_4, 3020, .inl (fun _ => 0)))]) [0, 1, 2] rfl
  have hD := hD.sub (ws' := [(d, .inr (1, [.ref h, .ref y, .ref q_1, .int 0, .int 0, .ref q_3, .null, .int 0])), (q_1, .inl (k_2, 40, .inr (.inr (.inr (.inr fa3))))), (q_3, .inl (k_4, 3020, .inl (fun _ => 0)))]) [0, 1, 2] (by decide) rfl
  have hK := hK.sub (tys' := [(k_2, .object RX2), (k_4, .int)]) [0, 1] rfl
  refine lv_iinc (v := 4) (lv' := [(3, .int 4), (0, .ref d), (1, .ref h), (2, .ref y)]) hx hb dX1_init_53 hl (k := 0) rfl (by decide) (by decide) rfl (fun ls hl => ?_)
  refine lv_goto (tgt := 34) hx hb dX1_init_56 (by decide) ?_
  refine lv_iload_n hx hb dX1_init_34 rfl (lv_at hl 0 rfl) ?_
  refine lv_bipush (v := 40) hx hb dX1_init_35 (by decide) ?_
  refine lv_icmp_ge (tgt := 59) hx hb dX1_init_37 (by decide) (fun c_49 => absurd c_49 (by decide)) (fun _ => ?_)
  refine lv_aload_n hx hb dX1_init_40 rfl (lv_at hl 1 rfl) ?_
  refine va_get (D := (dC, dI)) (ci := 1) (v := .ref q_1) (C := RX1) (T := TX1) (N := 8) hx hb hts in_c_decl_X1 hown hK hP 0 rfl rfl 2 (by decide) (hts (.fieldLink RX1 11 "OwnedPlaces$Declarations" "functions" "[LOwnedPlaces$Function;") (wm_c_decl 5 rfl)) (fun _ h9 => h9) rfl dX1_init_41 ?_
  refine lv_iload_n hx hb dX1_init_44 rfl (lv_at hl 0 rfl) ?_
  refine va_new (ci := 2) (fs := [.int 0, .int 0, .int 0, .null, .int 0, .null, .int 0, .int 0, .int 0, .int 0, .null, .null, .null, .null, .null, .null, .int 0, .int 0, .int 0, .int 0, .int 0, .int 0]) (C := RX2) (T := TX2) (N := 22) hx hb hts in_c_decl_X2 tyX2 tyX2_ok hown (hts (.classLink RX1 9 RX2) (wm_c_decl 4 rfl)) (hts (.instantiable RX2 22) (wm_c_decl 10 rfl)) (hts (.initialized RX2) (wm_c_decl 11 rfl)) hK hP hD hS hA rfl dv_X2 (show 38 + 1 ≤ 362 by omega) (show 4188 + 22 ≤ 14340 by omega) dX1_init_45 (fun q_50 H hP hD hS => ?_)
  have hP : va_P (dC, dI) vwCl [(d, .inr (1, [.ref h, .ref y, .ref q_1, .int 0, .int 0, .ref q_3, .null, .int 0])), (q_1, .inl (k_2, 40, .inr (.inr (.inr (.inr fa3))))), (q_3, .inl (k_4, 3020, .inl (fun _ => 0))), (q_50, .inr (2, [.int 0, .int 0, .int 0, .null, .int 0, .null, .int 0, .int 0, .int 0, .int 0, .null, .null, .null, .null, .null, .null, .int 0, .int 0, .int 0, .int 0, .int 0, .int 0]))] H := hP
  have hD : va_D A [(d, .inr (1, [.ref h, .ref y, .ref q_1, .int 0, .int 0, .ref q_3, .null, .int 0])), (q_1, .inl (k_2, 40, .inr (.inr (.inr (.inr fa3))))), (q_3, .inl (k_4, 3020, .inl (fun _ => 0))), (q_50, .inr (2, [.int 0, .int 0, .int 0, .null, .int 0, .null, .int 0, .int 0, .int 0, .int 0, .null, .null, .null, .null, .null, .null, .int 0, .int 0, .int 0, .int 0, .int 0, .int 0]))] := hD
  refine W.widen (k := 39) (n := 4210) (by omega) (by omega) ?_
  refine lv_dup hx hb dX1_init_48 rfl ?_
  have hPc := hP.sub (ws' := [(q_50, .inr (2, [.int 0, .int 0, .int 0, .null, .int 0, .null, .int 0, .int 0, .int 0, .int 0, .null, .null, .null, .null, .null, .null, .int 0, .int 0, .int 0, .int 0, .int 0, .int 0]))]) [3] rfl
  have hDc := hD.sub (ws' := [(q_50, .inr (2, [.int 0, .int 0, .int 0, .null, .int 0, .null, .int 0, .int 0, .int 0, .int 0, .null, .null, .null, .null, .null, .null, .int 0, .int 0, .int 0, .int 0, .int 0, .int 0]))]) [3] (by decide) rfl
  have hKc := hK.sub (tys' := []) [] rfl
  have hFc := va_free (wc := [(q_50, .inr (2, [.int 0, .int 0, .int 0, .null, .int 0, .null, .int 0, .int 0, .int 0, .int 0, .null, .null, .null, .null, .null, .null, .int 0, .int 0, .int 0, .int 0, .int 0, .int 0]))]) hD hS hA [3] rfl
  refine va_callv (va_runIN (As := []) (rest := [.ref q_50, .int 4, .ref q_1]) ⟨hx, hb, hml, hown, hts⟩ (c_function l dC dI q_50 H.size) ⟨va_cnB 0 hts g_c_decl_c_function_49 rfl rfl rfl hpre0 (hts (.initialized RX2) (wm_c_decl 11 rfl)) (by decide +kernel) ⟨Nat.le_of_ble_eq_true rfl, Nat.le_of_ble_eq_true rfl⟩, rfl, (hts (.instanceMethod yX2_init) (wm_c_decl 23 rfl))⟩ ⟨fun a U g mk q => by obtain ⟨q0, q1, qP, qK, qD⟩ := q; exact ⟨q0, q1, qP, va_K.moved (u := U) (U := U.calling g mk a) (Vm.Alike.refl U.vm) qK, qD⟩, fun U hU hW => ⟨rfl, by rw [hU], by rw [hU]; exact hPc, va_K.moved hW.alike hKc, hDc.weaken (fun _ _ _ _ => trivial)⟩⟩ rfl rfl hl.1 rfl (lv_room (Nat.le_of_ble_eq_true rfl)) dX1_init_49 ⟨(show 39 + 8 ≤ 362 by omega), (show 4210 + 260 ≤ 14340 by omega)⟩) hS (fun q _ h => hFc q h) hFc (fun u tS H1 locs ht hvm hw hB hz1 hk1 hS => ?_)
  obtain ⟨q3_52, q5_53, q10_54, q11_55, q12_56, q13_57, q14_58, q15_59, hP1, hK1, hD1⟩ := hB
  rw [ht] at hP1
  have hK1 := va_K.moved hvm.symm hK1
  obtain ⟨hP, hD⟩ := va_join (wr := [(d, .inr (1, [.ref h, .ref y, .ref q_1, .int 0, .int 0, .ref q_3, .null, .int 0])), (q_1, .inl (k_2, 40, .inr (.inr (.inr (.inr fa3))))), (q_3, .inl (k_4, 3020, .inl (fun _ => 0)))]) (w1 := [(q_50, .inr (2, [.int 0, .int 0, .int 0, .ref q3_52, .int 0, .ref q5_53, .int 0, .int 0, .int 0, .int 0, .ref q10_54, .ref q11_55, .ref q12_56, .ref q13_57, .ref q14_58, .ref q15_59, .int 0, .int 0, .int 0, .int 0, .int 0, .int 0]))]) hP hD [3] [0, 1, 2] rfl rfl (by decide) (by decide) hk1 hFc hP1 hD1
  generalize H1 = H at hP hS ⊢
  have hP : va_P (dC, dI) vwCl [(d, .inr (1, [.ref h, .ref y, .ref q_1, .int 0, .int 0, .ref q_3, .null, .int 0])), (q_1, .inl (k_2, 40, .inr (.inr (.inr (.inr fa3))))), (q_3, .inl (k_4, 3020, .inl (fun _ => 0))), (q_50, .inr (2, [.int 0, .int 0, .int 0, .ref q3_52, .int 0, .ref q5_53, .int 0, .int 0, .int 0, .int 0, .ref q10_54, .ref q11_55, .ref q12_56, .ref q13_57, .ref q14_58, .ref q15_59, .int 0, .int 0, .int 0, .int 0, .int 0, .int 0]))] H := hP
  have hD : va_D A [(d, .inr (1, [.ref h, .ref y, .ref q_1, .int 0, .int 0, .ref q_3, .null, .int 0])), (q_1, .inl (k_2, 40, .inr (.inr (.inr (.inr fa3))))), (q_3, .inl (k_4, 3020, .inl (fun _ => 0))), (q_50, .inr (2, [.int 0, .int 0, .int 0, .ref q3_52, .int 0, .ref q5_53, .int 0, .int 0, .int 0, .int 0, .ref q10_54, .ref q11_55, .ref q12_56, .ref q13_57, .ref q14_58, .ref q15_59, .int 0, .int 0, .int 0, .int 0, .int 0, .int 0]))] := hD
  have hK : va_K (dC, dI) vwCl [(k_2, .object RX2), (k_4, .int)] s := hK
  refine W.widen (k := 47) (n := 4470) (by omega) (by omega) ?_
  refine va_astq hx hb hK hP hD hS 1 0 3 2 rfl rfl rfl rfl (by unfold vp_in; decide) dX1_init_52 (fun H locs hP hD hS => ?_)
  have hP : va_P (dC, dI) vwCl [(d, .inr (1, [.ref h, .ref y, .ref q_1, .int 0, .int 0, .ref q_3, .null, .int 0])), (q_1, .inl (k_2, 40, .inr (.inr (.inr (.inr (va_up fa3 (4 : Int32).toNatClampNeg (some q_50))))))), (q_3, .inl (k_4, 3020, .inl (fun _ => 0))), (q_50, .inr (2, [.int 0, .int 0, .int 0, .ref q3_52, .int 0, .ref q5_53, .int 0, .int 0, .int 0, .int 0, .ref q10_54, .ref q11_55, .ref q12_56, .ref q13_57, .ref q14_58, .ref q15_59, .int 0, .int 0, .int 0, .int 0, .int 0, .int 0]))] H := hP
  have hD : va_D A [(d, .inr (1, [.ref h, .ref y, .ref q_1, .int 0, .int 0, .ref q_3, .null, .int 0])), (q_1, .inl (k_2, 40, .inr (.inr (.inr (.inr (va_up fa3 (4 : Int32).toNatClampNeg (some q_50))))))), (q_3, .inl (k_4, 3020, .inl (fun _ => 0))), (q_50, .inr (2, [.int 0, .int 0, .int 0, .ref q3_52, .int 0, .ref q5_53, .int 0, .int 0, .int 0, .int 0, .ref q10_54, .ref q11_55, .ref q12_56, .ref q13_57, .ref q14_58, .ref q15_59, .int 0, .int 0, .int 0, .int 0, .int 0, .int 0]))] := hD
  obtain ⟨fa4, efa4⟩ : ∃ z : Nat → Option Nat, z = va_up fa3 (4 : Int32).toNatClampNeg (some q_50) := ⟨_, rfl⟩
  rw [← efa4] at hP hD
  have hP := hP.sub (ws' := [(d, .inr (1, [.ref h, .ref y, .ref q_1, .int 0, .int 0, .ref q_3, .null, .int 0])), (q_1, .inl (k_2, 40, .inr (.inr (.inr (.inr fa4))))), (q_3, .inl (k_4, 3020, .inl (fun _ => 0)))]) [0, 1, 2] rfl
  have hD := hD.sub (ws' := [(d, .inr (1, [.ref h, .ref y, .ref q_1, .int 0, .int 0, .ref q_3, .null, .int 0])), (q_1, .inl (k_2, 40, .inr (.inr (.inr (.inr fa4))))), (q_3, .inl (k_4, 3020, .inl (fun _ => 0)))]) [0, 1, 2] (by decide) rfl
  have hK := hK.sub (tys' := [(k_2, .object RX2), (k_4, .int)]) [0, 1] rfl
  refine lv_iinc (v := 5) (lv' := [(3, .int 5), (0, .ref d), (1, .ref h), (2, .ref y)]) hx hb dX1_init_53 hl (k := 0) rfl (by decide) (by decide) rfl (fun ls hl => ?_)
  refine lv_goto (tgt := 34) hx hb dX1_init_56 (by decide) ?_
  refine lv_iload_n hx hb dX1_init_34 rfl (lv_at hl 0 rfl) ?_
  refine lv_bipush (v := 40) hx hb dX1_init_35 (by decide) ?_
  refine lv_icmp_ge (tgt := 59) hx hb dX1_init_37 (by decide) (fun c_60 => absurd c_60 (by decide)) (fun _ => ?_)
  refine lv_aload_n hx hb dX1_init_40 rfl (lv_at hl 1 rfl) ?_
  refine va_get (D := (dC, dI)) (ci := 1) (v := .ref q_1) (C := RX1) (T := TX1) (N := 8) hx hb hts in_c_decl_X1 hown hK hP 0 rfl rfl 2 (by decide) (hts (.fieldLink RX1 11 "OwnedPlaces$Declarations" "functions" "[LOwnedPlaces$Function;") (wm_c_decl 5 rfl)) (fun _ h9 => h9) rfl dX1_init_41 ?_
  refine lv_iload_n hx hb dX1_init_44 rfl (lv_at hl 0 rfl) ?_
  refine va_new (ci := 2) (fs := [.int 0, .int 0, .int 0, .null, .int 0, .null, .int 0, .int 0, .int 0, .int 0, .null, .null, .null, .null, .null, .null, .int 0, .int 0, .int 0, .int 0, .int 0, .int 0]) (C := RX2) (T := TX2) (N := 22) hx hb hts in_c_decl_X2 tyX2 tyX2_ok hown (hts (.classLink RX1 9 RX2) (wm_c_decl 4 rfl)) (hts (.instantiable RX2 22) (wm_c_decl 10 rfl)) (hts (.initialized RX2) (wm_c_decl 11 rfl)) hK hP hD hS hA rfl dv_X2 (show 47 + 1 ≤ 362 by omega) (show 4470 + 22 ≤ 14340 by omega) dX1_init_45 (fun q_61 H hP hD hS => ?_)
  have hP : va_P (dC, dI) vwCl [(d, .inr (1, [.ref h, .ref y, .ref q_1, .int 0, .int 0, .ref q_3, .null, .int 0])), (q_1, .inl (k_2, 40, .inr (.inr (.inr (.inr fa4))))), (q_3, .inl (k_4, 3020, .inl (fun _ => 0))), (q_61, .inr (2, [.int 0, .int 0, .int 0, .null, .int 0, .null, .int 0, .int 0, .int 0, .int 0, .null, .null, .null, .null, .null, .null, .int 0, .int 0, .int 0, .int 0, .int 0, .int 0]))] H := hP
  have hD : va_D A [(d, .inr (1, [.ref h, .ref y, .ref q_1, .int 0, .int 0, .ref q_3, .null, .int 0])), (q_1, .inl (k_2, 40, .inr (.inr (.inr (.inr fa4))))), (q_3, .inl (k_4, 3020, .inl (fun _ => 0))), (q_61, .inr (2, [.int 0, .int 0, .int 0, .null, .int 0, .null, .int 0, .int 0, .int 0, .int 0, .null, .null, .null, .null, .null, .null, .int 0, .int 0, .int 0, .int 0, .int 0, .int 0]))] := hD
  refine W.widen (k := 48) (n := 4492) (by omega) (by omega) ?_
  refine lv_dup hx hb dX1_init_48 rfl ?_
  have hPc := hP.sub (ws' := [(q_61, .inr (2, [.int 0, .int 0, .int 0, .null, .int 0, .null, .int 0, .int 0, .int 0, .int 0, .null, .null, .null, .null, .null, .null, .int 0, .int 0, .int 0, .int 0, .int 0, .int 0]))]) [3] rfl
  have hDc := hD.sub (ws' := [(q_61, .inr (2, [.int 0, .int 0, .int 0, .null, .int 0, .null, .int 0, .int 0, .int 0, .int 0, .null, .null, .null, .null, .null, .null, .int 0, .int 0, .int 0, .int 0, .int 0, .int 0]))]) [3] (by decide) rfl
  have hKc := hK.sub (tys' := []) [] rfl
  have hFc := va_free (wc := [(q_61, .inr (2, [.int 0, .int 0, .int 0, .null, .int 0, .null, .int 0, .int 0, .int 0, .int 0, .null, .null, .null, .null, .null, .null, .int 0, .int 0, .int 0, .int 0, .int 0, .int 0]))]) hD hS hA [3] rfl
  refine va_callv (va_runIN (As := []) (rest := [.ref q_61, .int 5, .ref q_1]) ⟨hx, hb, hml, hown, hts⟩ (c_function l dC dI q_61 H.size) ⟨va_cnB 0 hts g_c_decl_c_function_49 rfl rfl rfl hpre0 (hts (.initialized RX2) (wm_c_decl 11 rfl)) (by decide +kernel) ⟨Nat.le_of_ble_eq_true rfl, Nat.le_of_ble_eq_true rfl⟩, rfl, (hts (.instanceMethod yX2_init) (wm_c_decl 23 rfl))⟩ ⟨fun a U g mk q => by obtain ⟨q0, q1, qP, qK, qD⟩ := q; exact ⟨q0, q1, qP, va_K.moved (u := U) (U := U.calling g mk a) (Vm.Alike.refl U.vm) qK, qD⟩, fun U hU hW => ⟨rfl, by rw [hU], by rw [hU]; exact hPc, va_K.moved hW.alike hKc, hDc.weaken (fun _ _ _ _ => trivial)⟩⟩ rfl rfl hl.1 rfl (lv_room (Nat.le_of_ble_eq_true rfl)) dX1_init_49 ⟨(show 48 + 8 ≤ 362 by omega), (show 4492 + 260 ≤ 14340 by omega)⟩) hS (fun q _ h => hFc q h) hFc (fun u tS H1 locs ht hvm hw hB hz1 hk1 hS => ?_)
  obtain ⟨q3_63, q5_64, q10_65, q11_66, q12_67, q13_68, q14_69, q15_70, hP1, hK1, hD1⟩ := hB
  rw [ht] at hP1
  have hK1 := va_K.moved hvm.symm hK1
  obtain ⟨hP, hD⟩ := va_join (wr := [(d, .inr (1, [.ref h, .ref y, .ref q_1, .int 0, .int 0, .ref q_3, .null, .int 0])), (q_1, .inl (k_2, 40, .inr (.inr (.inr (.inr fa4))))), (q_3, .inl (k_4, 3020, .inl (fun _ => 0)))]) (w1 := [(q_61, .inr (2, [.int 0, .int 0, .int 0, .ref q3_63, .int 0, .ref q5_64, .int 0, .int 0, .int 0, .int 0, .ref q10_65, .ref q11_66, .ref q12_67, .ref q13_68, .ref q14_69, .ref q15_70, .int 0, .int 0, .int 0, .int 0, .int 0, .int 0]))]) hP hD [3] [0, 1, 2] rfl rfl (by decide) (by decide) hk1 hFc hP1 hD1
  generalize H1 = H at hP hS ⊢
  have hP : va_P (dC, dI) vwCl [(d, .inr (1, [.ref h, .ref y, .ref q_1, .int 0, .int 0, .ref q_3, .null, .int 0])), (q_1, .inl (k_2, 40, .inr (.inr (.inr (.inr fa4))))), (q_3, .inl (k_4, 3020, .inl (fun _ => 0))), (q_61, .inr (2, [.int 0, .int 0, .int 0, .ref q3_63, .int 0, .ref q5_64, .int 0, .int 0, .int 0, .int 0, .ref q10_65, .ref q11_66, .ref q12_67, .ref q13_68, .ref q14_69, .ref q15_70, .int 0, .int 0, .int 0, .int 0, .int 0, .int 0]))] H := hP
  have hD : va_D A [(d, .inr (1, [.ref h, .ref y, .ref q_1, .int 0, .int 0, .ref q_3, .null, .int 0])), (q_1, .inl (k_2, 40, .inr (.inr (.inr (.inr fa4))))), (q_3, .inl (k_4, 3020, .inl (fun _ => 0))), (q_61, .inr (2, [.int 0, .int 0, .int 0, .ref q3_63, .int 0, .ref q5_64, .int 0, .int 0, .int 0, .int 0, .ref q10_65, .ref q11_66, .ref q12_67, .ref q13_68, .ref q14_69, .ref q15_70, .int 0, .int 0, .int 0, .int 0, .int 0, .int 0]))] := hD
  have hK : va_K (dC, dI) vwCl [(k_2, .object RX2), (k_4, .int)] s := hK
  refine W.widen (k := 56) (n := 4752) (by omega) (by omega) ?_
  refine va_astq hx hb hK hP hD hS 1 0 3 2 rfl rfl rfl rfl (by unfold vp_in; decide) dX1_init_52 (fun H locs hP hD hS => ?_)
  have hP : va_P (dC, dI) vwCl [(d, .inr (1, [.ref h, .ref y, .ref q_1, .int 0, .int 0, .ref q_3, .null, .int 0])), (q_1, .inl (k_2, 40, .inr (.inr (.inr (.inr (va_up fa4 (5 : Int32).toNatClampNeg (some q_61))))))), (q_3, .inl (k_4, 3020, .inl (fun _ => 0))), (q_61, .inr (2, [.int 0, .int 0, .int 0, .ref q3_63, .int 0, .ref q5_64, .int 0, .int 0, .int 0, .int 0, .ref q10_65, .ref q11_66, .ref q12_67, .ref q13_68, .ref q14_69, .ref q15_70, .int 0, .int 0, .int 0, .int 0, .int 0, .int 0]))] H := hP
  have hD : va_D A [(d, .inr (1, [.ref h, .ref y, .ref q_1, .int 0, .int 0, .ref q_3, .null, .int 0])), (q_1, .inl (k_2, 40, .inr (.inr (.inr (.inr (va_up fa4 (5 : Int32).toNatClampNeg (some q_61))))))), (q_3, .inl (k_4, 3020, .inl (fun _ => 0))), (q_61, .inr (2, [.int 0, .int 0, .int 0, .ref q3_63, .int 0, .ref q5_64, .int 0, .int 0, .int 0, .int 0, .ref q10_65, .ref q11_66, .ref q12_67, .ref q13_68, .ref q14_69, .ref q15_70, .int 0, .int 0, .int 0, .int 0, .int 0, .int 0]))] := hD
  obtain ⟨fa5, efa5⟩ : ∃ z : Nat → Option Nat, z = va_up fa4 (5 : Int32).toNatClampNeg (some q_61) := ⟨_, rfl⟩
  rw [← efa5] at hP hD
  have hP := hP.sub (ws' := [(d, .inr (1, [.ref h, .ref y, .ref q_1, .int 0, .int 0, .ref q_3, .null, .int 0])), (q_1, .inl (k_2, 40, .inr (.inr (.inr (.inr fa5))))), (q_3, .inl (k_4, 3020, .inl (fun _ => 0)))]) [0, 1, 2] rfl
  have hD := hD.sub (ws' := [(d, .inr (1, [.ref h, .ref y, .ref q_1, .int 0, .int 0, .ref q_3, .null, .int 0])), (q_1, .inl (k_2, 40, .inr (.inr (.inr (.inr fa5))))), (q_3, .inl (k_4, 3020, .inl (fun _ => 0)))]) [0, 1, 2] (by decide) rfl
  have hK := hK.sub (tys' := [(k_2, .object RX2), (k_4, .int)]) [0, 1] rfl
  refine lv_iinc (v := 6) (lv' := [(3, .int 6), (0, .ref d), (1, .ref h), (2, .ref y)]) hx hb dX1_init_53 hl (k := 0) rfl (by decide) (by decide) rfl (fun ls hl => ?_)
  refine lv_goto (tgt := 34) hx hb dX1_init_56 (by decide) ?_
  refine lv_iload_n hx hb dX1_init_34 rfl (lv_at hl 0 rfl) ?_
  refine lv_bipush (v := 40) hx hb dX1_init_35 (by decide) ?_
  refine lv_icmp_ge (tgt := 59) hx hb dX1_init_37 (by decide) (fun c_71 => absurd c_71 (by decide)) (fun _ => ?_)
  refine lv_aload_n hx hb dX1_init_40 rfl (lv_at hl 1 rfl) ?_
  refine va_get (D := (dC, dI)) (ci := 1) (v := .ref q_1) (C := RX1) (T := TX1) (N := 8) hx hb hts in_c_decl_X1 hown hK hP 0 rfl rfl 2 (by decide) (hts (.fieldLink RX1 11 "OwnedPlaces$Declarations" "functions" "[LOwnedPlaces$Function;") (wm_c_decl 5 rfl)) (fun _ h9 => h9) rfl dX1_init_41 ?_
  refine lv_iload_n hx hb dX1_init_44 rfl (lv_at hl 0 rfl) ?_
  refine va_new (ci := 2) (fs := [.int 0, .int 0, .int 0, .null, .int 0, .null, .int 0, .int 0, .int 0, .int 0, .null, .null, .null, .null, .null, .null, .int 0, .int 0, .int 0, .int 0, .int 0, .int 0]) (C := RX2) (T := TX2) (N := 22) hx hb hts in_c_decl_X2 tyX2 tyX2_ok hown (hts (.classLink RX1 9 RX2) (wm_c_decl 4 rfl)) (hts (.instantiable RX2 22) (wm_c_decl 10 rfl)) (hts (.initialized RX2) (wm_c_decl 11 rfl)) hK hP hD hS hA rfl dv_X2 (show 56 + 1 ≤ 362 by omega) (show 4752 + 22 ≤ 14340 by omega) dX1_init_45 (fun q_72 H hP hD hS => ?_)
  have hP : va_P (dC, dI) vwCl [(d, .inr (1, [.ref h, .ref y, .ref q_1, .int 0, .int 0, .ref q_3, .null, .int 0])), (q_1, .inl (k_2, 40, .inr (.inr (.inr (.inr fa5))))), (q_3, .inl (k_4, 3020, .inl (fun _ => 0))), (q_72, .inr (2, [.int 0, .int 0, .int 0, .null, .int 0, .null, .int 0, .int 0, .int 0, .int 0, .null, .null, .null, .null, .null, .null, .int 0, .int 0, .int 0, .int 0, .int 0, .int 0]))] H := hP
  have hD : va_D A [(d, .inr (1, [.ref h, .ref y, .ref q_1, .int 0, .int 0, .ref q_3, .null, .int 0])), (q_1, .inl (k_2, 40, .inr (.inr (.inr (.inr fa5))))), (q_3, .inl (k_4, 3020, .inl (fun _ => 0))), (q_72, .inr (2, [.int 0, .int 0, .int 0, .null, .int 0, .null, .int 0, .int 0, .int 0, .int 0, .null, .null, .null, .null, .null, .null, .int 0, .int 0, .int 0, .int 0, .int 0, .int 0]))] := hD
  refine W.widen (k := 57) (n := 4774) (by omega) (by omega) ?_
  refine lv_dup hx hb dX1_init_48 rfl ?_
  have hPc := hP.sub (ws' := [(q_72, .inr (2, [.int 0, .int 0, .int 0, .null, .int 0, .null, .int 0, .int 0, .int 0, .int 0, .null, .null, .null, .null, .null, .null, .int 0, .int 0, .int 0, .int 0, .int 0, .int 0]))]) [3] rfl
  have hDc := hD.sub (ws' := [(q_72, .inr (2, [.int 0, .int 0, .int 0, .null, .int 0, .null, .int 0, .int 0, .int 0, .int 0, .null, .null, .null, .null, .null, .null, .int 0, .int 0, .int 0, .int 0, .int 0, .int 0]))]) [3] (by decide) rfl
  have hKc := hK.sub (tys' := []) [] rfl
  have hFc := va_free (wc := [(q_72, .inr (2, [.int 0, .int 0, .int 0, .null, .int 0, .null, .int 0, .int 0, .int 0, .int 0, .null, .null, .null, .null, .null, .null, .int 0, .int 0, .int 0, .int 0, .int 0, .int 0]))]) hD hS hA [3] rfl
  refine va_callv (va_runIN (As := []) (rest := [.ref q_72, .int 6, .ref q_1]) ⟨hx, hb, hml, hown, hts⟩ (c_function l dC dI q_72 H.size) ⟨va_cnB 0 hts g_c_decl_c_function_49 rfl rfl rfl hpre0 (hts (.initialized RX2) (wm_c_decl 11 rfl)) (by decide +kernel) ⟨Nat.le_of_ble_eq_true rfl, Nat.le_of_ble_eq_true rfl⟩, rfl, (hts (.instanceMethod yX2_init) (wm_c_decl 23 rfl))⟩ ⟨fun a U g mk q => by obtain ⟨q0, q1, qP, qK, qD⟩ := q; exact ⟨q0, q1, qP, va_K.moved (u := U) (U := U.calling g mk a) (Vm.Alike.refl U.vm) qK, qD⟩, fun U hU hW => ⟨rfl, by rw [hU], by rw [hU]; exact hPc, va_K.moved hW.alike hKc, hDc.weaken (fun _ _ _ _ => trivial)⟩⟩ rfl rfl hl.1 rfl (lv_room (Nat.le_of_ble_eq_true rfl)) dX1_init_49 ⟨(show 57 + 8 ≤ 362 by omega), (show 4774 + 260 ≤ 14340 by omega)⟩) hS (fun q _ h => hFc q h) hFc (fun u tS H1 locs ht hvm hw hB hz1 hk1 hS => ?_)
  obtain ⟨q3_74, q5_75, q10_76, q11_77, q12_78, q13_79, q14_80, q15_81, hP1, hK1, hD1⟩ := hB
  rw [ht] at hP1
  have hK1 := va_K.moved hvm.symm hK1
  obtain ⟨hP, hD⟩ := va_join (wr := [(d, .inr (1, [.ref h, .ref y, .ref q_1, .int 0, .int 0, .ref q_3, .null, .int 0])), (q_1, .inl (k_2, 40, .inr (.inr (.inr (.inr fa5))))), (q_3, .inl (k_4, 3020, .inl (fun _ => 0)))]) (w1 := [(q_72, .inr (2, [.int 0, .int 0, .int 0, .ref q3_74, .int 0, .ref q5_75, .int 0, .int 0, .int 0, .int 0, .ref q10_76, .ref q11_77, .ref q12_78, .ref q13_79, .ref q14_80, .ref q15_81, .int 0, .int 0, .int 0, .int 0, .int 0, .int 0]))]) hP hD [3] [0, 1, 2] rfl rfl (by decide) (by decide) hk1 hFc hP1 hD1
  generalize H1 = H at hP hS ⊢
  have hP : va_P (dC, dI) vwCl [(d, .inr (1, [.ref h, .ref y, .ref q_1, .int 0, .int 0, .ref q_3, .null, .int 0])), (q_1, .inl (k_2, 40, .inr (.inr (.inr (.inr fa5))))), (q_3, .inl (k_4, 3020, .inl (fun _ => 0))), (q_72, .inr (2, [.int 0, .int 0, .int 0, .ref q3_74, .int 0, .ref q5_75, .int 0, .int 0, .int 0, .int 0, .ref q10_76, .ref q11_77, .ref q12_78, .ref q13_79, .ref q14_80, .ref q15_81, .int 0, .int 0, .int 0, .int 0, .int 0, .int 0]))] H := hP
  have hD : va_D A [(d, .inr (1, [.ref h, .ref y, .ref q_1, .int 0, .int 0, .ref q_3, .null, .int 0])), (q_1, .inl (k_2, 40, .inr (.inr (.inr (.inr fa5))))), (q_3, .inl (k_4, 3020, .inl (fun _ => 0))), (q_72, .inr (2, [.int 0, .int 0, .int 0, .ref q3_74, .int 0, .ref q5_75, .int 0, .int 0, .int 0, .int 0, .ref q10_76, .ref q11_77, .ref q12_78, .ref q13_79, .ref q14_80, .ref q15_81, .int 0, .int 0, .int 0, .int 0, .int 0, .int 0]))] := hD
  have hK : va_K (dC, dI) vwCl [(k_2, .object RX2), (k_4, .int)] s := hK
  refine W.widen (k := 65) (n := 5034) (by omega) (by omega) ?_
  refine va_astq hx hb hK hP hD hS 1 0 3 2 rfl rfl rfl rfl (by unfold vp_in; decide) dX1_init_52 (fun H locs hP hD hS => ?_)
  have hP : va_P (dC, dI) vwCl [(d, .inr (1, [.ref h, .ref y, .ref q_1, .int 0, .int 0, .ref q_3, .null, .int 0])), (q_1, .inl (k_2, 40, .inr (.inr (.inr (.inr (va_up fa5 (6 : Int32).toNatClampNeg (some q_72))))))), (q_3, .inl (k_4, 3020, .inl (fun _ => 0))), (q_72, .inr (2, [.int 0, .int 0, .int 0, .ref q3_74, .int 0, .ref q5_75, .int 0, .int 0, .int 0, .int 0, .ref q10_76, .ref q11_77, .ref q12_78, .ref q13_79, .ref q14_80, .ref q15_81, .int 0, .int 0, .int 0, .int 0, .int 0, .int 0]))] H := hP
  have hD : va_D A [(d, .inr (1, [.ref h, .ref y, .ref q_1, .int 0, .int 0, .ref q_3, .null, .int 0])), (q_1, .inl (k_2, 40, .inr (.inr (.inr (.inr (va_up fa5 (6 : Int32).toNatClampNeg (some q_72))))))), (q_3, .inl (k_4, 3020, .inl (fun _ => 0))), (q_72, .inr (2, [.int 0, .int 0, .int 0, .ref q3_74, .int 0, .ref q5_75, .int 0, .int 0, .int 0, .int 0, .ref q10_76, .ref q11_77, .ref q12_78, .ref q13_79, .ref q14_80, .ref q15_81, .int 0, .int 0, .int 0, .int 0, .int 0, .int 0]))] := hD
  obtain ⟨fa6, efa6⟩ : ∃ z : Nat → Option Nat, z = va_up fa5 (6 : Int32).toNatClampNeg (some q_72) := ⟨_, rfl⟩
  rw [← efa6] at hP hD
  have hP := hP.sub (ws' := [(d, .inr (1, [.ref h, .ref y, .ref q_1, .int 0, .int 0, .ref q_3, .null, .int 0])), (q_1, .inl (k_2, 40, .inr (.inr (.inr (.inr fa6))))), (q_3, .inl (k_4, 3020, .inl (fun _ => 0)))]) [0, 1, 2] rfl
  have hD := hD.sub (ws' := [(d, .inr (1, [.ref h, .ref y, .ref q_1, .int 0, .int 0, .ref q_3, .null, .int 0])), (q_1, .inl (k_2, 40, .inr (.inr (.inr (.inr fa6))))), (q_3, .inl (k_4, 3020, .inl (fun _ => 0)))]) [0, 1, 2] (by decide) rfl
  have hK := hK.sub (tys' := [(k_2, .object RX2), (k_4, .int)]) [0, 1] rfl
  refine lv_iinc (v := 7) (lv' := [(3, .int 7), (0, .ref d), (1, .ref h), (2, .ref y)]) hx hb dX1_init_53 hl (k := 0) rfl (by decide) (by decide) rfl (fun ls hl => ?_)
  refine lv_goto (tgt := 34) hx hb dX1_init_56 (by decide) ?_
  refine lv_iload_n hx hb dX1_init_34 rfl (lv_at hl 0 rfl) ?_
  refine lv_bipush (v := 40) hx hb dX1_init_35 (by decide) ?_
  refine lv_icmp_ge (tgt := 59) hx hb dX1_init_37 (by decide) (fun c_82 => absurd c_82 (by decide)) (fun _ => ?_)
  refine lv_aload_n hx hb dX1_init_40 rfl (lv_at hl 1 rfl) ?_
  refine va_get (D := (dC, dI)) (ci := 1) (v := .ref q_1) (C := RX1) (T := TX1) (N := 8) hx hb hts in_c_decl_X1 hown hK hP 0 rfl rfl 2 (by decide) (hts (.fieldLink RX1 11 "OwnedPlaces$Declarations" "functions" "[LOwnedPlaces$Function;") (wm_c_decl 5 rfl)) (fun _ h9 => h9) rfl dX1_init_41 ?_
  refine lv_iload_n hx hb dX1_init_44 rfl (lv_at hl 0 rfl) ?_
  refine va_new (ci := 2) (fs := [.int 0, .int 0, .int 0, .null, .int 0, .null, .int 0, .int 0, .int 0, .int 0, .null, .null, .null, .null, .null, .null, .int 0, .int 0, .int 0, .int 0, .int 0, .int 0]) (C := RX2) (T := TX2) (N := 22) hx hb hts in_c_decl_X2 tyX2 tyX2_ok hown (hts (.classLink RX1 9 RX2) (wm_c_decl 4 rfl)) (hts (.instantiable RX2 22) (wm_c_decl 10 rfl)) (hts (.initialized RX2) (wm_c_decl 11 rfl)) hK hP hD hS hA rfl dv_X2 (show 65 + 1 ≤ 362 by omega) (show 5034 + 22 ≤ 14340 by omega) dX1_init_45 (fun q_83 H hP hD hS => ?_)
  have hP : va_P (dC, dI) vwCl [(d, .inr (1, [.ref h, .ref y, .ref q_1, .int 0, .int 0, .ref q_3, .null, .int 0])), (q_1, .inl (k_2, 40, .inr (.inr (.inr (.inr fa6))))), (q_3, .inl (k_4, 3020, .inl (fun _ => 0))), (q_83, .inr (2, [.int 0, .int 0, .int 0, .null, .int 0, .null, .int 0, .int 0, .int 0, .int 0, .null, .null, .null, .null, .null, .null, .int 0, .int 0, .int 0, .int 0, .int 0, .int 0]))] H := hP
  have hD : va_D A [(d, .inr (1, [.ref h, .ref y, .ref q_1, .int 0, .int 0, .ref q_3, .null, .int 0])), (q_1, .inl (k_2, 40, .inr (.inr (.inr (.inr fa6))))), (q_3, .inl (k_4, 3020, .inl (fun _ => 0))), (q_83, .inr (2, [.int 0, .int 0, .int 0, .null, .int 0, .null, .int 0, .int 0, .int 0, .int 0, .null, .null, .null, .null, .null, .null, .int 0, .int 0, .int 0, .int 0, .int 0, .int 0]))] := hD
  refine W.widen (k := 66) (n := 5056) (by omega) (by omega) ?_
  refine lv_dup hx hb dX1_init_48 rfl ?_
  have hPc := hP.sub (ws' := [(q_83, .inr (2, [.int 0, .int 0, .int 0, .null, .int 0, .null, .int 0, .int 0, .int 0, .int 0, .null, .null, .null, .null, .null, .null, .int 0, .int 0, .int 0, .int 0, .int 0, .int 0]))]) [3] rfl
  have hDc := hD.sub (ws' := [(q_83, .inr (2, [.int 0, .int 0, .int 0, .null, .int 0, .null, .int 0, .int 0, .int 0, .int 0, .null, .null, .null, .null, .null, .null, .int 0, .int 0, .int 0, .int 0, .int 0, .int 0]))]) [3] (by decide) rfl
  have hKc := hK.sub (tys' := []) [] rfl
  have hFc := va_free (wc := [(q_83, .inr (2, [.int 0, .int 0, .int 0, .null, .int 0, .null, .int 0, .int 0, .int 0, .int 0, .null, .null, .null, .null, .null, .null, .int 0, .int 0, .int 0, .int 0, .int 0, .int 0]))]) hD hS hA [3] rfl
  refine va_callv (va_runIN (As := []) (rest := [.ref q_83, .int 7, .ref q_1]) ⟨hx, hb, hml, hown, hts⟩ (c_function l dC dI q_83 H.size) ⟨va_cnB 0 hts g_c_decl_c_function_49 rfl rfl rfl hpre0 (hts (.initialized RX2) (wm_c_decl 11 rfl)) (by decide +kernel) ⟨Nat.le_of_ble_eq_true rfl, Nat.le_of_ble_eq_true rfl⟩, rfl, (hts (.instanceMethod yX2_init) (wm_c_decl 23 rfl))⟩ ⟨fun a U g mk q => by obtain ⟨q0, q1, qP, qK, qD⟩ := q; exact ⟨q0, q1, qP, va_K.moved (u := U) (U := U.calling g mk a) (Vm.Alike.refl U.vm) qK, qD⟩, fun U hU hW => ⟨rfl, by rw [hU], by rw [hU]; exact hPc, va_K.moved hW.alike hKc, hDc.weaken (fun _ _ _ _ => trivial)⟩⟩ rfl rfl hl.1 rfl (lv_room (Nat.le_of_ble_eq_true rfl)) dX1_init_49 ⟨(show 66 + 8 ≤ 362 by omega), (show 5056 + 260 ≤ 14340 by omega)⟩) hS (fun q _ h => hFc q h) hFc (fun u tS H1 locs ht hvm hw hB hz1 hk1 hS => ?_)
  obtain ⟨q3_85, q5_86, q10_87, q11_88, q12_89, q13_90, q14_91, q15_92, hP1, hK1, hD1⟩ := hB
  rw [ht] at hP1
  have hK1 := va_K.moved hvm.symm hK1
  obtain ⟨hP, hD⟩ := va_join (wr := [(d, .inr (1, [.ref h, .ref y, .ref q_1, .int 0, .int 0, .ref q_3, .null, .int 0])), (q_1, .inl (k_2, 40, .inr (.inr (.inr (.inr fa6))))), (q_3, .inl (k_4, 3020, .inl (fun _ => 0)))]) (w1 := [(q_83, .inr (2, [.int 0, .int 0, .int 0, .ref q3_85, .int 0, .ref q5_86, .int 0, .int 0, .int 0, .int 0, .ref q10_87, .ref q11_88, .ref q12_89, .ref q13_90, .ref q14_91, .ref q15_92, .int 0, .int 0, .int 0, .int 0, .int 0, .int 0]))]) hP hD [3] [0, 1, 2] rfl rfl (by decide) (by decide) hk1 hFc hP1 hD1
  generalize H1 = H at hP hS ⊢
  have hP : va_P (dC, dI) vwCl [(d, .inr (1, [.ref h, .ref y, .ref q_1, .int 0, .int 0, .ref q_3, .null, .int 0])), (q_1, .inl (k_2, 40, .inr (.inr (.inr (.inr fa6))))), (q_3, .inl (k_4, 3020, .inl (fun _ => 0))), (q_83, .inr (2, [.int 0, .int 0, .int 0, .ref q3_85, .int 0, .ref q5_86, .int 0, .int 0, .int 0, .int 0, .ref q10_87, .ref q11_88, .ref q12_89, .ref q13_90, .ref q14_91, .ref q15_92, .int 0, .int 0, .int 0, .int 0, .int 0, .int 0]))] H := hP
  have hD : va_D A [(d, .inr (1, [.ref h, .ref y, .ref q_1, .int 0, .int 0, .ref q_3, .null, .int 0])), (q_1, .inl (k_2, 40, .inr (.inr (.inr (.inr fa6))))), (q_3, .inl (k_4, 3020, .inl (fun _ => 0))), (q_83, .inr (2, [.int 0, .int 0, .int 0, .ref q3_85, .int 0, .ref q5_86, .int 0, .int 0, .int 0, .int 0, .ref q10_87, .ref q11_88, .ref q12_89, .ref q13_90, .ref q14_91, .ref q15_92, .int 0, .int 0, .int 0, .int 0, .int 0, .int 0]))] := hD
  have hK : va_K (dC, dI) vwCl [(k_2, .object RX2), (k_4, .int)] s := hK
  refine W.widen (k := 74) (n := 5316) (by omega) (by omega) ?_
  refine va_astq hx hb hK hP hD hS 1 0 3 2 rfl rfl rfl rfl (by unfold vp_in; decide) dX1_init_52 (fun H locs hP hD hS => ?_)
  have hP : va_P (dC, dI) vwCl [(d, .inr (1, [.ref h, .ref y, .ref q_1, .int 0, .int 0, .ref q_3, .null, .int 0])), (q_1, .inl (k_2, 40, .inr (.inr (.inr (.inr (va_up fa6 (7 : Int32).toNatClampNeg (some q_83))))))), (q_3, .inl (k_4, 3020, .inl (fun _ => 0))), (q_83, .inr (2, [.int 0, .int 0, .int 0, .ref q3_85, .int 0, .ref q5_86, .int 0, .int 0, .int 0, .int 0, .ref q10_87, .ref q11_88, .ref q12_89, .ref q13_90, .ref q14_91, .ref q15_92, .int 0, .int 0, .int 0, .int 0, .int 0, .int 0]))] H := hP
  have hD : va_D A [(d, .inr (1, [.ref h, .ref y, .ref q_1, .int 0, .int 0, .ref q_3, .null, .int 0])), (q_1, .inl (k_2, 40, .inr (.inr (.inr (.inr (va_up fa6 (7 : Int32).toNatClampNeg (some q_83))))))), (q_3, .inl (k_4, 3020, .inl (fun _ => 0))), (q_83, .inr (2, [.int 0, .int 0, .int 0, .ref q3_85, .int 0, .ref q5_86, .int 0, .int 0, .int 0, .int 0, .ref q10_87, .ref q11_88, .ref q12_89, .ref q13_90, .ref q14_91, .ref q15_92, .int 0, .int 0, .int 0, .int 0, .int 0, .int 0]))] := hD
  obtain ⟨fa7, efa7⟩ : ∃ z : Nat → Option Nat, z = va_up fa6 (7 : Int32).toNatClampNeg (some q_83) := ⟨_, rfl⟩
  rw [← efa7] at hP hD
  have hP := hP.sub (ws' := [(d, .inr (1, [.ref h, .ref y, .ref q_1, .int 0, .int 0, .ref q_3, .null, .int 0])), (q_1, .inl (k_2, 40, .inr (.inr (.inr (.inr fa7))))), (q_3, .inl (k_4, 3020, .inl (fun _ => 0)))]) [0, 1, 2] rfl
  have hD := hD.sub (ws' := [(d, .inr (1, [.ref h, .ref y, .ref q_1, .int 0, .int 0, .ref q_3, .null, .int 0])), (q_1, .inl (k_2, 40, .inr (.inr (.inr (.inr fa7))))), (q_3, .inl (k_4, 3020, .inl (fun _ => 0)))]) [0, 1, 2] (by decide) rfl
  have hK := hK.sub (tys' := [(k_2, .object RX2), (k_4, .int)]) [0, 1] rfl
  refine lv_iinc (v := 8) (lv' := [(3, .int 8), (0, .ref d), (1, .ref h), (2, .ref y)]) hx hb dX1_init_53 hl (k := 0) rfl (by decide) (by decide) rfl (fun ls hl => ?_)
  refine lv_goto (tgt := 34) hx hb dX1_init_56 (by decide) ?_
  refine lv_iload_n hx hb dX1_init_34 rfl (lv_at hl 0 rfl) ?_
  refine lv_bipush (v := 40) hx hb dX1_init_35 (by decide) ?_
  refine lv_icmp_ge (tgt := 59) hx hb dX1_init_37 (by decide) (fun c_93 => absurd c_93 (by decide)) (fun _ => ?_)
  refine lv_aload_n hx hb dX1_init_40 rfl (lv_at hl 1 rfl) ?_
  refine va_get (D := (dC, dI)) (ci := 1) (v := .ref q_1) (C := RX1) (T := TX1) (N := 8) hx hb hts in_c_decl_X1 hown hK hP 0 rfl rfl 2 (by decide) (hts (.fieldLink RX1 11 "OwnedPlaces$Declarations" "functions" "[LOwnedPlaces$Function;") (wm_c_decl 5 rfl)) (fun _ h9 => h9) rfl dX1_init_41 ?_
  refine lv_iload_n hx hb dX1_init_44 rfl (lv_at hl 0 rfl) ?_
  refine va_new (ci := 2) (fs := [.int 0, .int 0, .int 0, .null, .int 0, .null, .int 0, .int 0, .int 0, .int 0, .null, .null, .null, .null, .null, .null, .int 0, .int 0, .int 0, .int 0, .int 0, .int 0]) (C := RX2) (T := TX2) (N := 22) hx hb hts in_c_decl_X2 tyX2 tyX2_ok hown (hts (.classLink RX1 9 RX2) (wm_c_decl 4 rfl)) (hts (.instantiable RX2 22) (wm_c_decl 10 rfl)) (hts (.initialized RX2) (wm_c_decl 11 rfl)) hK hP hD hS hA rfl dv_X2 (show 74 + 1 ≤ 362 by omega) (show 5316 + 22 ≤ 14340 by omega) dX1_init_45 (fun q_94 H hP hD hS => ?_)
  have hP : va_P (dC, dI) vwCl [(d, .inr (1, [.ref h, .ref y, .ref q_1, .int 0, .int 0, .ref q_3, .null, .int 0])), (q_1, .inl (k_2, 40, .inr (.inr (.inr (.inr fa7))))), (q_3, .inl (k_4, 3020, .inl (fun _ => 0))), (q_94, .inr (2, [.int 0, .int 0, .int 0, .null, .int 0, .null, .int 0, .int 0, .int 0, .int 0, .null, .null, .null, .null, .null, .null, .int 0, .int 0, .int 0, .int 0, .int 0, .int 0]))] H := hP
  have hD : va_D A [(d, .inr (1, [.ref h, .ref y, .ref q_1, .int 0, .int 0, .ref q_3, .null, .int 0])), (q_1, .inl (k_2, 40, .inr (.inr (.inr (.inr fa7))))), (q_3, .inl (k_4, 3020, .inl (fun _ => 0))), (q_94, .inr (2, [.int 0, .int 0, .int 0, .null, .int 0, .null, .int 0, .int 0, .int 0, .int 0, .null, .null, .null, .null, .null, .null, .int 0, .int 0, .int 0, .int 0, .int 0, .int 0]))] := hD
  refine W.widen (k := 75) (n := 5338) (by omega) (by omega) ?_
  refine lv_dup hx hb dX1_init_48 rfl ?_
  have hPc := hP.sub (ws' := [(q_94, .inr (2, [.int 0, .int 0, .int 0, .null, .int 0, .null, .int 0, .int 0, .int 0, .int 0, .null, .null, .null, .null, .null, .null, .int 0, .int 0, .int 0, .int 0, .int 0, .int 0]))]) [3] rfl
  have hDc := hD.sub (ws' := [(q_94, .inr (2, [.int 0, .int 0, .int 0, .null, .int 0, .null, .int 0, .int 0, .int 0, .int 0, .null, .null, .null, .null, .null, .null, .int 0, .int 0, .int 0, .int 0, .int 0, .int 0]))]) [3] (by decide) rfl
  have hKc := hK.sub (tys' := []) [] rfl
  have hFc := va_free (wc := [(q_94, .inr (2, [.int 0, .int 0, .int 0, .null, .int 0, .null, .int 0, .int 0, .int 0, .int 0, .null, .null, .null, .null, .null, .null, .int 0, .int 0, .int 0, .int 0, .int 0, .int 0]))]) hD hS hA [3] rfl
  refine va_callv (va_runIN (As := []) (rest := [.ref q_94, .int 8, .ref q_1]) ⟨hx, hb, hml, hown, hts⟩ (c_function l dC dI q_94 H.size) ⟨va_cnB 0 hts g_c_decl_c_function_49 rfl rfl rfl hpre0 (hts (.initialized RX2) (wm_c_decl 11 rfl)) (by decide +kernel) ⟨Nat.le_of_ble_eq_true rfl, Nat.le_of_ble_eq_true rfl⟩, rfl, (hts (.instanceMethod yX2_init) (wm_c_decl 23 rfl))⟩ ⟨fun a U g mk q => by obtain ⟨q0, q1, qP, qK, qD⟩ := q; exact ⟨q0, q1, qP, va_K.moved (u := U) (U := U.calling g mk a) (Vm.Alike.refl U.vm) qK, qD⟩, fun U hU hW => ⟨rfl, by rw [hU], by rw [hU]; exact hPc, va_K.moved hW.alike hKc, hDc.weaken (fun _ _ _ _ => trivial)⟩⟩ rfl rfl hl.1 rfl (lv_room (Nat.le_of_ble_eq_true rfl)) dX1_init_49 ⟨(show 75 + 8 ≤ 362 by omega), (show 5338 + 260 ≤ 14340 by omega)⟩) hS (fun q _ h => hFc q h) hFc (fun u tS H1 locs ht hvm hw hB hz1 hk1 hS => ?_)
  obtain ⟨q3_96, q5_97, q10_98, q11_99, q12_100, q13_101, q14_102, q15_103, hP1, hK1, hD1⟩ := hB
  rw [ht] at hP1
  have hK1 := va_K.moved hvm.symm hK1
  obtain ⟨hP, hD⟩ := va_join (wr := [(d, .inr (1, [.ref h, .ref y, .ref q_1, .int 0, .int 0, .ref q_3, .null, .int 0])), (q_1, .inl (k_2, 40, .inr (.inr (.inr (.inr fa7))))), (q_3, .inl (k_4, 3020, .inl (fun _ => 0)))]) (w1 := [(q_94, .inr (2, [.int 0, .int 0, .int 0, .ref q3_96, .int 0, .ref q5_97, .int 0, .int 0, .int 0, .int 0, .ref q10_98, .ref q11_99, .ref q12_100, .ref q13_101, .ref q14_102, .ref q15_103, .int 0, .int 0, .int 0, .int 0, .int 0, .int 0]))]) hP hD [3] [0, 1, 2] rfl rfl (by decide) (by decide) hk1 hFc hP1 hD1
  generalize H1 = H at hP hS ⊢
  have hP : va_P (dC, dI) vwCl [(d, .inr (1, [.ref h, .ref y, .ref q_1, .int 0, .int 0, .ref q_3, .null, .int 0])), (q_1, .inl (k_2, 40, .inr (.inr (.inr (.inr fa7))))), (q_3, .inl (k_4, 3020, .inl (fun _ => 0))), (q_94, .inr (2, [.int 0, .int 0, .int 0, .ref q3_96, .int 0, .ref q5_97, .int 0, .int 0, .int 0, .int 0, .ref q10_98, .ref q11_99, .ref q12_100, .ref q13_101, .ref q14_102, .ref q15_103, .int 0, .int 0, .int 0, .int 0, .int 0, .int 0]))] H := hP
  have hD : va_D A [(d, .inr (1, [.ref h, .ref y, .ref q_1, .int 0, .int 0, .ref q_3, .null, .int 0])), (q_1, .inl (k_2, 40, .inr (.inr (.inr (.inr fa7))))), (q_3, .inl (k_4, 3020, .inl (fun _ => 0))), (q_94, .inr (2, [.int 0, .int 0, .int 0, .ref q3_96, .int 0, .ref q5_97, .int 0, .int 0, .int 0, .int 0, .ref q10_98, .ref q11_99, .ref q12_100, .ref q13_101, .ref q14_102, .ref q15_103, .int 0, .int 0, .int 0, .int 0, .int 0, .int 0]))] := hD
  have hK : va_K (dC, dI) vwCl [(k_2, .object RX2), (k_4, .int)] s := hK
  refine W.widen (k := 83) (n := 5598) (by omega) (by omega) ?_
  refine va_astq hx hb hK hP hD hS 1 0 3 2 rfl rfl rfl rfl (by unfold vp_in; decide) dX1_init_52 (fun H locs hP hD hS => ?_)
  have hP : va_P (dC, dI) vwCl [(d, .inr (1, [.ref h, .ref y, .ref q_1, .int 0, .int 0, .ref q_3, .null, .int 0])), (q_1, .inl (k_2, 40, .inr (.inr (.inr (.inr (va_up fa7 (8 : Int32).toNatClampNeg (some q_94))))))), (q_3, .inl (k_4, 3020, .inl (fun _ => 0))), (q_94, .inr (2, [.int 0, .int 0, .int 0, .ref q3_96, .int 0, .ref q5_97, .int 0, .int 0, .int 0, .int 0, .ref q10_98, .ref q11_99, .ref q12_100, .ref q13_101, .ref q14_102, .ref q15_103, .int 0, .int 0, .int 0, .int 0, .int 0, .int 0]))] H := hP
  have hD : va_D A [(d, .inr (1, [.ref h, .ref y, .ref q_1, .int 0, .int 0, .ref q_3, .null, .int 0])), (q_1, .inl (k_2, 40, .inr (.inr (.inr (.inr (va_up fa7 (8 : Int32).toNatClampNeg (some q_94))))))), (q_3, .inl (k_4, 3020, .inl (fun _ => 0))), (q_94, .inr (2, [.int 0, .int 0, .int 0, .ref q3_96, .int 0, .ref q5_97, .int 0, .int 0, .int 0, .int 0, .ref q10_98, .ref q11_99, .ref q12_100, .ref q13_101, .ref q14_102, .ref q15_103, .int 0, .int 0, .int 0, .int 0, .int 0, .int 0]))] := hD
  obtain ⟨fa8, efa8⟩ : ∃ z : Nat → Option Nat, z = va_up fa7 (8 : Int32).toNatClampNeg (some q_94) := ⟨_, rfl⟩
  rw [← efa8] at hP hD
  have hP := hP.sub (ws' := [(d, .inr (1, [.ref h, .ref y, .ref q_1, .int 0, .int 0, .ref q_3, .null, .int 0])), (q_1, .inl (k_2, 40, .inr (.inr (.inr (.inr fa8))))), (q_3, .inl (k_4, 3020, .inl (fun _ => 0)))]) [0, 1, 2] rfl
  have hD := hD.sub (ws' := [(d, .inr (1, [.ref h, .ref y, .ref q_1, .int 0, .int 0, .ref q_3, .null, .int 0])), (q_1, .inl (k_2, 40, .inr (.inr (.inr (.inr fa8))))), (q_3, .inl (k_4, 3020, .inl (fun _ => 0)))]) [0, 1, 2] (by decide) rfl
  have hK := hK.sub (tys' := [(k_2, .object RX2), (k_4, .int)]) [0, 1] rfl
  refine lv_iinc (v := 9) (lv' := [(3, .int 9), (0, .ref d), (1, .ref h), (2, .ref y)]) hx hb dX1_init_53 hl (k := 0) rfl (by decide) (by decide) rfl (fun ls hl => ?_)
  refine lv_goto (tgt := 34) hx hb dX1_init_56 (by decide) ?_
  refine lv_iload_n hx hb dX1_init_34 rfl (lv_at hl 0 rfl) ?_
  refine lv_bipush (v := 40) hx hb dX1_init_35 (by decide) ?_
  refine lv_icmp_ge (tgt := 59) hx hb dX1_init_37 (by decide) (fun c_104 => absurd c_104 (by decide)) (fun _ => ?_)
  refine lv_aload_n hx hb dX1_init_40 rfl (lv_at hl 1 rfl) ?_
  refine va_get (D := (dC, dI)) (ci := 1) (v := .ref q_1) (C := RX1) (T := TX1) (N := 8) hx hb hts in_c_decl_X1 hown hK hP 0 rfl rfl 2 (by decide) (hts (.fieldLink RX1 11 "OwnedPlaces$Declarations" "functions" "[LOwnedPlaces$Function;") (wm_c_decl 5 rfl)) (fun _ h9 => h9) rfl dX1_init_41 ?_
  refine lv_iload_n hx hb dX1_init_44 rfl (lv_at hl 0 rfl) ?_
  refine va_new (ci := 2) (fs := [.int 0, .int 0, .int 0, .null, .int 0, .null, .int 0, .int 0, .int 0, .int 0, .null, .null, .null, .null, .null, .null, .int 0, .int 0, .int 0, .int 0, .int 0, .int 0]) (C := RX2) (T := TX2) (N := 22) hx hb hts in_c_decl_X2 tyX2 tyX2_ok hown (hts (.classLink RX1 9 RX2) (wm_c_decl 4 rfl)) (hts (.instantiable RX2 22) (wm_c_decl 10 rfl)) (hts (.initialized RX2) (wm_c_decl 11 rfl)) hK hP hD hS hA rfl dv_X2 (show 83 + 1 ≤ 362 by omega) (show 5598 + 22 ≤ 14340 by omega) dX1_init_45 (fun q_105 H hP hD hS => ?_)
  have hP : va_P (dC, dI) vwCl [(d, .inr (1, [.ref h, .ref y, .ref q_1, .int 0, .int 0, .ref q_3, .null, .int 0])), (q_1, .inl (k_2, 40, .inr (.inr (.inr (.inr fa8))))), (q_3, .inl (k_4, 3020, .inl (fun _ => 0))), (q_105, .inr (2, [.int 0, .int 0, .int 0, .null, .int 0, .null, .int 0, .int 0, .int 0, .int 0, .null, .null, .null, .null, .null, .null, .int 0, .int 0, .int 0, .int 0, .int 0, .int 0]))] H := hP
  have hD : va_D A [(d, .inr (1, [.ref h, .ref y, .ref q_1, .int 0, .int 0, .ref q_3, .null, .int 0])), (q_1, .inl (k_2, 40, .inr (.inr (.inr (.inr fa8))))), (q_3, .inl (k_4, 3020, .inl (fun _ => 0))), (q_105, .inr (2, [.int 0, .int 0, .int 0, .null, .int 0, .null, .int 0, .int 0, .int 0, .int 0, .null, .null, .null, .null, .null, .null, .int 0, .int 0, .int 0, .int 0, .int 0, .int 0]))] := hD
  refine W.widen (k := 84) (n := 5620) (by omega) (by omega) ?_
  refine lv_dup hx hb dX1_init_48 rfl ?_
  have hPc := hP.sub (ws' := [(q_105, .inr (2, [.int 0, .int 0, .int 0, .null, .int 0, .null, .int 0, .int 0, .int 0, .int 0, .null, .null, .null, .null, .null, .null, .int 0, .int 0, .int 0, .int 0, .int 0, .int 0]))]) [3] rfl
  have hDc := hD.sub (ws' := [(q_105, .inr (2, [.int 0, .int 0, .int 0, .null, .int 0, .null, .int 0, .int 0, .int 0, .int 0, .null, .null, .null, .null, .null, .null, .int 0, .int 0, .int 0, .int 0, .int 0, .int 0]))]) [3] (by decide) rfl
  have hKc := hK.sub (tys' := []) [] rfl
  have hFc := va_free (wc := [(q_105, .inr (2, [.int 0, .int 0, .int 0, .null, .int 0, .null, .int 0, .int 0, .int 0, .int 0, .null, .null, .null, .null, .null, .null, .int 0, .int 0, .int 0, .int 0, .int 0, .int 0]))]) hD hS hA [3] rfl
  refine va_callv (va_runIN (As := []) (rest := [.ref q_105, .int 9, .ref q_1]) ⟨hx, hb, hml, hown, hts⟩ (c_function l dC dI q_105 H.size) ⟨va_cnB 0 hts g_c_decl_c_function_49 rfl rfl rfl hpre0 (hts (.initialized RX2) (wm_c_decl 11 rfl)) (by decide +kernel) ⟨Nat.le_of_ble_eq_true rfl, Nat.le_of_ble_eq_true rfl⟩, rfl, (hts (.instanceMethod yX2_init) (wm_c_decl 23 rfl))⟩ ⟨fun a U g mk q => by obtain ⟨q0, q1, qP, qK, qD⟩ := q; exact ⟨q0, q1, qP, va_K.moved (u := U) (U := U.calling g mk a) (Vm.Alike.refl U.vm) qK, qD⟩, fun U hU hW => ⟨rfl, by rw [hU], by rw [hU]; exact hPc, va_K.moved hW.alike hKc, hDc.weaken (fun _ _ _ _ => trivial)⟩⟩ rfl rfl hl.1 rfl (lv_room (Nat.le_of_ble_eq_true rfl)) dX1_init_49 ⟨(show 84 + 8 ≤ 362 by omega), (show 5620 + 260 ≤ 14340 by omega)⟩) hS (fun q _ h => hFc q h) hFc (fun u tS H1 locs ht hvm hw hB hz1 hk1 hS => ?_)
  obtain ⟨q3_107, q5_108, q10_109, q11_110, q12_111, q13_112, q14_113, q15_114, hP1, hK1, hD1⟩ := hB
  rw [ht] at hP1
  have hK1 := va_K.moved hvm.symm hK1
  obtain ⟨hP, hD⟩ := va_join (wr := [(d, .inr (1, [.ref h, .ref y, .ref q_1, .int 0, .int 0, .ref q_3, .null, .int 0])), (q_1, .inl (k_2, 40, .inr (.inr (.inr (.inr fa8))))), (q_3, .inl (k_4, 3020, .inl (fun _ => 0)))]) (w1 := [(q_105, .inr (2, [.int 0, .int 0, .int 0, .ref q3_107, .int 0, .ref q5_108, .int 0, .int 0, .int 0, .int 0, .ref q10_109, .ref q11_110, .ref q12_111, .ref q13_112, .ref q14_113, .ref q15_114, .int 0, .int 0, .int 0, .int 0, .int 0, .int 0]))]) hP hD [3] [0, 1, 2] rfl rfl (by decide) (by decide) hk1 hFc hP1 hD1
  generalize H1 = H at hP hS ⊢
  have hP : va_P (dC, dI) vwCl [(d, .inr (1, [.ref h, .ref y, .ref q_1, .int 0, .int 0, .ref q_3, .null, .int 0])), (q_1, .inl (k_2, 40, .inr (.inr (.inr (.inr fa8))))), (q_3, .inl (k_4, 3020, .inl (fun _ => 0))), (q_105, .inr (2, [.int 0, .int 0, .int 0, .ref q3_107, .int 0, .ref q5_108, .int 0, .int 0, .int 0, .int 0, .ref q10_109, .ref q11_110, .ref q12_111, .ref q13_112, .ref q14_113, .ref q15_114, .int 0, .int 0, .int 0, .int 0, .int 0, .int 0]))] H := hP
  have hD : va_D A [(d, .inr (1, [.ref h, .ref y, .ref q_1, .int 0, .int 0, .ref q_3, .null, .int 0])), (q_1, .inl (k_2, 40, .inr (.inr (.inr (.inr fa8))))), (q_3, .inl (k_4, 3020, .inl (fun _ => 0))), (q_105, .inr (2, [.int 0, .int 0, .int 0, .ref q3_107, .int 0, .ref q5_108, .int 0, .int 0, .int 0, .int 0, .ref q10_109, .ref q11_110, .ref q12_111, .ref q13_112, .ref q14_113, .ref q15_114, .int 0, .int 0, .int 0, .int 0, .int 0, .int 0]))] := hD
  have hK : va_K (dC, dI) vwCl [(k_2, .object RX2), (k_4, .int)] s := hK
  refine W.widen (k := 92) (n := 5880) (by omega) (by omega) ?_
  refine va_astq hx hb hK hP hD hS 1 0 3 2 rfl rfl rfl rfl (by unfold vp_in; decide) dX1_init_52 (fun H locs hP hD hS => ?_)
  have hP : va_P (dC, dI) vwCl [(d, .inr (1, [.ref h, .ref y, .ref q_1, .int 0, .int 0, .ref q_3, .null, .int 0])), (q_1, .inl (k_2, 40, .inr (.inr (.inr (.inr (va_up fa8 (9 : Int32).toNatClampNeg (some q_105))))))), (q_3, .inl (k_4, 3020, .inl (fun _ => 0))), (q_105, .inr (2, [.int 0, .int 0, .int 0, .ref q3_107, .int 0, .ref q5_108, .int 0, .int 0, .int 0, .int 0, .ref q10_109, .ref q11_110, .ref q12_111, .ref q13_112, .ref q14_113, .ref q15_114, .int 0, .int 0, .int 0, .int 0, .int 0, .int 0]))] H := hP
  have hD : va_D A [(d, .inr (1, [.ref h, .ref y, .ref q_1, .int 0, .int 0, .ref q_3, .null, .int 0])), (q_1, .inl (k_2, 40, .inr (.inr (.inr (.inr (va_up fa8 (9 : Int32).toNatClampNeg (some q_105))))))), (q_3, .inl (k_4, 3020, .inl (fun _ => 0))), (q_105, .inr (2, [.int 0, .int 0, .int 0, .ref q3_107, .int 0, .ref q5_108, .int 0, .int 0, .int 0, .int 0, .ref q10_109, .ref q11_110, .ref q12_111, .ref q13_112, .ref q14_113, .ref q15_114, .int 0, .int 0, .int 0, .int 0, .int 0, .int 0]))] := hD
  obtain ⟨fa9, efa9⟩ : ∃ z : Nat → Option Nat, z = va_up fa8 (9 : Int32).toNatClampNeg (some q_105) := ⟨_, rfl⟩
  rw [← efa9] at hP hD
  have hP := hP.sub (ws' := [(d, .inr (1, [.ref h, .ref y, .ref q_1, .int 0, .int 0, .ref q_3, .null, .int 0])), (q_1, .inl (k_2, 40, .inr (.inr (.inr (.inr fa9))))), (q_3, .inl (k_4, 3020, .inl (fun _ => 0)))]) [0, 1, 2] rfl
  have hD := hD.sub (ws' := [(d, .inr (1, [.ref h, .ref y, .ref q_1, .int 0, .int 0, .ref q_3, .null, .int 0])), (q_1, .inl (k_2, 40, .inr (.inr (.inr (.inr fa9))))), (q_3, .inl (k_4, 3020, .inl (fun _ => 0)))]) [0, 1, 2] (by decide) rfl
  have hK := hK.sub (tys' := [(k_2, .object RX2), (k_4, .int)]) [0, 1] rfl
  refine lv_iinc (v := 10) (lv' := [(3, .int 10), (0, .ref d), (1, .ref h), (2, .ref y)]) hx hb dX1_init_53 hl (k := 0) rfl (by decide) (by decide) rfl (fun ls hl => ?_)
  refine lv_goto (tgt := 34) hx hb dX1_init_56 (by decide) ?_
  refine lv_iload_n hx hb dX1_init_34 rfl (lv_at hl 0 rfl) ?_
  refine lv_bipush (v := 40) hx hb dX1_init_35 (by decide) ?_
  refine lv_icmp_ge (tgt := 59) hx hb dX1_init_37 (by decide) (fun c_115 => absurd c_115 (by decide)) (fun _ => ?_)
  refine lv_aload_n hx hb dX1_init_40 rfl (lv_at hl 1 rfl) ?_
  refine va_get (D := (dC, dI)) (ci := 1) (v := .ref q_1) (C := RX1) (T := TX1) (N := 8) hx hb hts in_c_decl_X1 hown hK hP 0 rfl rfl 2 (by decide) (hts (.fieldLink RX1 11 "OwnedPlaces$Declarations" "functions" "[LOwnedPlaces$Function;") (wm_c_decl 5 rfl)) (fun _ h9 => h9) rfl dX1_init_41 ?_
  refine lv_iload_n hx hb dX1_init_44 rfl (lv_at hl 0 rfl) ?_
  refine va_new (ci := 2) (fs := [.int 0, .int 0, .int 0, .null, .int 0, .null, .int 0, .int 0, .int 0, .int 0, .null, .null, .null, .null, .null, .null, .int 0, .int 0, .int 0, .int 0, .int 0, .int 0]) (C := RX2) (T := TX2) (N := 22) hx hb hts in_c_decl_X2 tyX2 tyX2_ok hown (hts (.classLink RX1 9 RX2) (wm_c_decl 4 rfl)) (hts (.instantiable RX2 22) (wm_c_decl 10 rfl)) (hts (.initialized RX2) (wm_c_decl 11 rfl)) hK hP hD hS hA rfl dv_X2 (show 92 + 1 ≤ 362 by omega) (show 5880 + 22 ≤ 14340 by omega) dX1_init_45 (fun q_116 H hP hD hS => ?_)
  have hP : va_P (dC, dI) vwCl [(d, .inr (1, [.ref h, .ref y, .ref q_1, .int 0, .int 0, .ref q_3, .null, .int 0])), (q_1, .inl (k_2, 40, .inr (.inr (.inr (.inr fa9))))), (q_3, .inl (k_4, 3020, .inl (fun _ => 0))), (q_116, .inr (2, [.int 0, .int 0, .int 0, .null, .int 0, .null, .int 0, .int 0, .int 0, .int 0, .null, .null, .null, .null, .null, .null, .int 0, .int 0, .int 0, .int 0, .int 0, .int 0]))] H := hP
  have hD : va_D A [(d, .inr (1, [.ref h, .ref y, .ref q_1, .int 0, .int 0, .ref q_3, .null, .int 0])), (q_1, .inl (k_2, 40, .inr (.inr (.inr (.inr fa9))))), (q_3, .inl (k_4, 3020, .inl (fun _ => 0))), (q_116, .inr (2, [.int 0, .int 0, .int 0, .null, .int 0, .null, .int 0, .int 0, .int 0, .int 0, .null, .null, .null, .null, .null, .null, .int 0, .int 0, .int 0, .int 0, .int 0, .int 0]))] := hD
  refine W.widen (k := 93) (n := 5902) (by omega) (by omega) ?_
  refine lv_dup hx hb dX1_init_48 rfl ?_
  have hPc := hP.sub (ws' := [(q_116, .inr (2, [.int 0, .int 0, .int 0, .null, .int 0, .null, .int 0, .int 0, .int 0, .int 0, .null, .null, .null, .null, .null, .null, .int 0, .int 0, .int 0, .int 0, .int 0, .int 0]))]) [3] rfl
  have hDc := hD.sub (ws' := [(q_116, .inr (2, [.int 0, .int 0, .int 0, .null, .int 0, .null, .int 0, .int 0, .int 0, .int 0, .null, .null, .null, .null, .null, .null, .int 0, .int 0, .int 0, .int 0, .int 0, .int 0]))]) [3] (by decide) rfl
  have hKc := hK.sub (tys' := []) [] rfl
  have hFc := va_free (wc := [(q_116, .inr (2, [.int 0, .int 0, .int 0, .null, .int 0, .null, .int 0, .int 0, .int 0, .int 0, .null, .null, .null, .null, .null, .null, .int 0, .int 0, .int 0, .int 0, .int 0, .int 0]))]) hD hS hA [3] rfl
  refine va_callv (va_runIN (As := []) (rest := [.ref q_116, .int 10, .ref q_1]) ⟨hx, hb, hml, hown, hts⟩ (c_function l dC dI q_116 H.size) ⟨va_cnB 0 hts g_c_decl_c_function_49 rfl rfl rfl hpre0 (hts (.initialized RX2) (wm_c_decl 11 rfl)) (by decide +kernel) ⟨Nat.le_of_ble_eq_true rfl, Nat.le_of_ble_eq_true rfl⟩, rfl, (hts (.instanceMethod yX2_init) (wm_c_decl 23 rfl))⟩ ⟨fun a U g mk q => by obtain ⟨q0, q1, qP, qK, qD⟩ := q; exact ⟨q0, q1, qP, va_K.moved (u := U) (U := U.calling g mk a) (Vm.Alike.refl U.vm) qK, qD⟩, fun U hU hW => ⟨rfl, by rw [hU], by rw [hU]; exact hPc, va_K.moved hW.alike hKc, hDc.weaken (fun _ _ _ _ => trivial)⟩⟩ rfl rfl hl.1 rfl (lv_room (Nat.le_of_ble_eq_true rfl)) dX1_init_49 ⟨(show 93 + 8 ≤ 362 by omega), (show 5902 + 260 ≤ 14340 by omega)⟩) hS (fun q _ h => hFc q h) hFc (fun u tS H1 locs ht hvm hw hB hz1 hk1 hS => ?_)
  obtain ⟨q3_118, q5_119, q10_120, q11_121, q12_122, q13_123, q14_124, q15_125, hP1, hK1, hD1⟩ := hB
  rw [ht] at hP1
  have hK1 := va_K.moved hvm.symm hK1
  obtain ⟨hP, hD⟩ := va_join (wr := [(d, .inr (1, [.ref h, .ref y, .ref q_1, .int 0, .int 0, .ref q_3, .null, .int 0])), (q_1, .inl (k_2, 40, .inr (.inr (.inr (.inr fa9))))), (q_3, .inl (k_4, 3020, .inl (fun _ => 0)))]) (w1 := [(q_116, .inr (2, [.int 0, .int 0, .int 0, .ref q3_118, .int 0, .ref q5_119, .int 0, .int 0, .int 0, .int 0, .ref q10_120, .ref q11_121, .ref q12_122, .ref q13_123, .ref q14_124, .ref q15_125, .int 0, .int 0, .int 0, .int 0, .int 0, .int 0]))]) hP hD [3] [0, 1, 2] rfl rfl (by decide) (by decide) hk1 hFc hP1 hD1
  generalize H1 = H at hP hS ⊢
  have hP : va_P (dC, dI) vwCl [(d, .inr (1, [.ref h, .ref y, .ref q_1, .int 0, .int 0, .ref q_3, .null, .int 0])), (q_1, .inl (k_2, 40, .inr (.inr (.inr (.inr fa9))))), (q_3, .inl (k_4, 3020, .inl (fun _ => 0))), (q_116, .inr (2, [.int 0, .int 0, .int 0, .ref q3_118, .int 0, .ref q5_119, .int 0, .int 0, .int 0, .int 0, .ref q10_120, .ref q11_121, .ref q12_122, .ref q13_123, .ref q14_124, .ref q15_125, .int 0, .int 0, .int 0, .int 0, .int 0, .int 0]))] H := hP
  have hD : va_D A [(d, .inr (1, [.ref h, .ref y, .ref q_1, .int 0, .int 0, .ref q_3, .null, .int 0])), (q_1, .inl (k_2, 40, .inr (.inr (.inr (.inr fa9))))), (q_3, .inl (k_4, 3020, .inl (fun _ => 0))), (q_116, .inr (2, [.int 0, .int 0, .int 0, .ref q3_118, .int 0, .ref q5_119, .int 0, .int 0, .int 0, .int 0, .ref q10_120, .ref q11_121, .ref q12_122, .ref q13_123, .ref q14_124, .ref q15_125, .int 0, .int 0, .int 0, .int 0, .int 0, .int 0]))] := hD
  have hK : va_K (dC, dI) vwCl [(k_2, .object RX2), (k_4, .int)] s := hK
  refine W.widen (k := 101) (n := 6162) (by omega) (by omega) ?_
  refine va_astq hx hb hK hP hD hS 1 0 3 2 rfl rfl rfl rfl (by unfold vp_in; decide) dX1_init_52 (fun H locs hP hD hS => ?_)
  have hP : va_P (dC, dI) vwCl [(d, .inr (1, [.ref h, .ref y, .ref q_1, .int 0, .int 0, .ref q_3, .null, .int 0])), (q_1, .inl (k_2, 40, .inr (.inr (.inr (.inr (va_up fa9 (10 : Int32).toNatClampNeg (some q_116))))))), (q_3, .inl (k_4, 3020, .inl (fun _ => 0))), (q_116, .inr (2, [.int 0, .int 0, .int 0, .ref q3_118, .int 0, .ref q5_119, .int 0, .int 0, .int 0, .int 0, .ref q10_120, .ref q11_121, .ref q12_122, .ref q13_123, .ref q14_124, .ref q15_125, .int 0, .int 0, .int 0, .int 0, .int 0, .int 0]))] H := hP
  have hD : va_D A [(d, .inr (1, [.ref h, .ref y, .ref q_1, .int 0, .int 0, .ref q_3, .null, .int 0])), (q_1, .inl (k_2, 40, .inr (.inr (.inr (.inr (va_up fa9 (10 : Int32).toNatClampNeg (some q_116))))))), (q_3, .inl (k_4, 3020, .inl (fun _ => 0))), (q_116, .inr (2, [.int 0, .int 0, .int 0, .ref q3_118, .int 0, .ref q5_119, .int 0, .int 0, .int 0, .int 0, .ref q10_120, .ref q11_121, .ref q12_122, .ref q13_123, .ref q14_124, .ref q15_125, .int 0, .int 0, .int 0, .int 0, .int 0, .int 0]))] := hD
  obtain ⟨fa10, efa10⟩ : ∃ z : Nat → Option Nat, z = va_up fa9 (10 : Int32).toNatClampNeg (some q_116) := ⟨_, rfl⟩
  rw [← efa10] at hP hD
  have hP := hP.sub (ws' := [(d, .inr (1, [.ref h, .ref y, .ref q_1, .int 0, .int 0, .ref q_3, .null, .int 0])), (q_1, .inl (k_2, 40, .inr (.inr (.inr (.inr fa10))))), (q_3, .inl (k_4, 3020, .inl (fun _ => 0)))]) [0, 1, 2] rfl
  have hD := hD.sub (ws' := [(d, .inr (1, [.ref h, .ref y, .ref q_1, .int 0, .int 0, .ref q_3, .null, .int 0])), (q_1, .inl (k_2, 40, .inr (.inr (.inr (.inr fa10))))), (q_3, .inl (k_4, 3020, .inl (fun _ => 0)))]) [0, 1, 2] (by decide) rfl
  have hK := hK.sub (tys' := [(k_2, .object RX2), (k_4, .int)]) [0, 1] rfl
  refine lv_iinc (v := 11) (lv' := [(3, .int 11), (0, .ref d), (1, .ref h), (2, .ref y)]) hx hb dX1_init_53 hl (k := 0) rfl (by decide) (by decide) rfl (fun ls hl => ?_)
  refine lv_goto (tgt := 34) hx hb dX1_init_56 (by decide) ?_
  refine lv_iload_n hx hb dX1_init_34 rfl (lv_at hl 0 rfl) ?_
  refine lv_bipush (v := 40) hx hb dX1_init_35 (by decide) ?_
  refine lv_icmp_ge (tgt := 59) hx hb dX1_init_37 (by decide) (fun c_126 => absurd c_126 (by decide)) (fun _ => ?_)
  refine lv_aload_n hx hb dX1_init_40 rfl (lv_at hl 1 rfl) ?_
  refine va_get (D := (dC, dI)) (ci := 1) (v := .ref q_1) (C := RX1) (T := TX1) (N := 8) hx hb hts in_c_decl_X1 hown hK hP 0 rfl rfl 2 (by decide) (hts (.fieldLink RX1 11 "OwnedPlaces$Declarations" "functions" "[LOwnedPlaces$Function;") (wm_c_decl 5 rfl)) (fun _ h9 => h9) rfl dX1_init_41 ?_
  refine lv_iload_n hx hb dX1_init_44 rfl (lv_at hl 0 rfl) ?_
  refine va_new (ci := 2) (fs := [.int 0, .int 0, .int 0, .null, .int 0, .null, .int 0, .int 0, .int 0, .int 0, .null, .null, .null, .null, .null, .null, .int 0, .int 0, .int 0, .int 0, .int 0, .int 0]) (C := RX2) (T := TX2) (N := 22) hx hb hts in_c_decl_X2 tyX2 tyX2_ok hown (hts (.classLink RX1 9 RX2) (wm_c_decl 4 rfl)) (hts (.instantiable RX2 22) (wm_c_decl 10 rfl)) (hts (.initialized RX2) (wm_c_decl 11 rfl)) hK hP hD hS hA rfl dv_X2 (show 101 + 1 ≤ 362 by omega) (show 6162 + 22 ≤ 14340 by omega) dX1_init_45 (fun q_127 H hP hD hS => ?_)
  have hP : va_P (dC, dI) vwCl [(d, .inr (1, [.ref h, .ref y, .ref q_1, .int 0, .int 0, .ref q_3, .null, .int 0])), (q_1, .inl (k_2, 40, .inr (.inr (.inr (.inr fa10))))), (q_3, .inl (k_4, 3020, .inl (fun _ => 0))), (q_127, .inr (2, [.int 0, .int 0, .int 0, .null, .int 0, .null, .int 0, .int 0, .int 0, .int 0, .null, .null, .null, .null, .null, .null, .int 0, .int 0, .int 0, .int 0, .int 0, .int 0]))] H := hP
  have hD : va_D A [(d, .inr (1, [.ref h, .ref y, .ref q_1, .int 0, .int 0, .ref q_3, .null, .int 0])), (q_1, .inl (k_2, 40, .inr (.inr (.inr (.inr fa10))))), (q_3, .inl (k_4, 3020, .inl (fun _ => 0))), (q_127, .inr (2, [.int 0, .int 0, .int 0, .null, .int 0, .null, .int 0, .int 0, .int 0, .int 0, .null, .null, .null, .null, .null, .null, .int 0, .int 0, .int 0, .int 0, .int 0, .int 0]))] := hD
  refine W.widen (k := 102) (n := 6184) (by omega) (by omega) ?_
  refine lv_dup hx hb dX1_init_48 rfl ?_
  have hPc := hP.sub (ws' := [(q_127, .inr (2, [.int 0, .int 0, .int 0, .null, .int 0, .null, .int 0, .int 0, .int 0, .int 0, .null, .null, .null, .null, .null, .null, .int 0, .int 0, .int 0, .int 0, .int 0, .int 0]))]) [3] rfl
  have hDc := hD.sub (ws' := [(q_127, .inr (2, [.int 0, .int 0, .int 0, .null, .int 0, .null, .int 0, .int 0, .int 0, .int 0, .null, .null, .null, .null, .null, .null, .int 0, .int 0, .int 0, .int 0, .int 0, .int 0]))]) [3] (by decide) rfl
  have hKc := hK.sub (tys' := []) [] rfl
  have hFc := va_free (wc := [(q_127, .inr (2, [.int 0, .int 0, .int 0, .null, .int 0, .null, .int 0, .int 0, .int 0, .int 0, .null, .null, .null, .null, .null, .null, .int 0, .int 0, .int 0, .int 0, .int 0, .int 0]))]) hD hS hA [3] rfl
  refine va_callv (va_runIN (As := []) (rest := [.ref q_127, .int 11, .ref q_1]) ⟨hx, hb, hml, hown, hts⟩ (c_function l dC dI q_127 H.size) ⟨va_cnB 0 hts g_c_decl_c_function_49 rfl rfl rfl hpre0 (hts (.initialized RX2) (wm_c_decl 11 rfl)) (by decide +kernel) ⟨Nat.le_of_ble_eq_true rfl, Nat.le_of_ble_eq_true rfl⟩, rfl, (hts (.instanceMethod yX2_init) (wm_c_decl 23 rfl))⟩ ⟨fun a U g mk q => by obtain ⟨q0, q1, qP, qK, qD⟩ := q; exact ⟨q0, q1, qP, va_K.moved (u := U) (U := U.calling g mk a) (Vm.Alike.refl U.vm) qK, qD⟩, fun U hU hW => ⟨rfl, by rw [hU], by rw [hU]; exact hPc, va_K.moved hW.alike hKc, hDc.weaken (fun _ _ _ _ => trivial)⟩⟩ rfl rfl hl.1 rfl (lv_room (Nat.le_of_ble_eq_true rfl)) dX1_init_49 ⟨(show 102 + 8 ≤ 362 by omega), (show 6184 + 260 ≤ 14340 by omega)⟩) hS (fun q _ h => hFc q h) hFc (fun u tS H1 locs ht hvm hw hB hz1 hk1 hS => ?_)
  obtain ⟨q3_129, q5_130, q10_131, q11_132, q12_133, q13_134, q14_135, q15_136, hP1, hK1, hD1⟩ := hB
  rw [ht] at hP1
  have hK1 := va_K.moved hvm.symm hK1
  obtain ⟨hP, hD⟩ := va_join (wr := [(d, .inr (1, [.ref h, .ref y, .ref q_1, .int 0, .int 0, .ref q_3, .null, .int 0])), (q_1, .inl (k_2, 40, .inr (.inr (.inr (.inr fa10))))), (q_3, .inl (k_4, 3020, .inl (fun _ => 0)))]) (w1 := [(q_127, .inr (2, [.int 0, .int 0, .int 0, .ref q3_129, .int 0, .ref q5_130, .int 0, .int 0, .int 0, .int 0, .ref q10_131, .ref q11_132, .ref q12_133, .ref q13_134, .ref q14_135, .ref q15_136, .int 0, .int 0, .int 0, .int 0, .int 0, .int 0]))]) hP hD [3] [0, 1, 2] rfl rfl (by decide) (by decide) hk1 hFc hP1 hD1
  generalize H1 = H at hP hS ⊢
  have hP : va_P (dC, dI) vwCl [(d, .inr (1, [.ref h, .ref y, .ref q_1, .int 0, .int 0, .ref q_3, .null, .int 0])), (q_1, .inl (k_2, 40, .inr (.inr (.inr (.inr fa10))))), (q_3, .inl (k_4, 3020, .inl (fun _ => 0))), (q_127, .inr (2, [.int 0, .int 0, .int 0, .ref q3_129, .int 0, .ref q5_130, .int 0, .int 0, .int 0, .int 0, .ref q10_131, .ref q11_132, .ref q12_133, .ref q13_134, .ref q14_135, .ref q15_136, .int 0, .int 0, .int 0, .int 0, .int 0, .int 0]))] H := hP
  have hD : va_D A [(d, .inr (1, [.ref h, .ref y, .ref q_1, .int 0, .int 0, .ref q_3, .null, .int 0])), (q_1, .inl (k_2, 40, .inr (.inr (.inr (.inr fa10))))), (q_3, .inl (k_4, 3020, .inl (fun _ => 0))), (q_127, .inr (2, [.int 0, .int 0, .int 0, .ref q3_129, .int 0, .ref q5_130, .int 0, .int 0, .int 0, .int 0, .ref q10_131, .ref q11_132, .ref q12_133, .ref q13_134, .ref q14_135, .ref q15_136, .int 0, .int 0, .int 0, .int 0, .int 0, .int 0]))] := hD
  have hK : va_K (dC, dI) vwCl [(k_2, .object RX2), (k_4, .int)] s := hK
  refine W.widen (k := 110) (n := 6444) (by omega) (by omega) ?_
  refine va_astq hx hb hK hP hD hS 1 0 3 2 rfl rfl rfl rfl (by unfold vp_in; decide) dX1_init_52 (fun H locs hP hD hS => ?_)
  have hP : va_P (dC, dI) vwCl [(d, .inr (1, [.ref h, .ref y, .ref q_1, .int 0, .int 0, .ref q_3, .null, .int 0])), (q_1, .inl (k_2, 40, .inr (.inr (.inr (.inr (va_up fa10 (11 : Int32).toNatClampNeg (some q_127))))))), (q_3, .inl (k_4, 3020, .inl (fun _ => 0))), (q_127, .inr (2, [.int 0, .int 0, .int 0, .ref q3_129, .int 0, .ref q5_130, .int 0, .int 0, .int 0, .int 0, .ref q10_131, .ref q11_132, .ref q12_133, .ref q13_134, .ref q14_135, .ref q15_136, .int 0, .int 0, .int 0, .int 0, .int 0, .int 0]))] H := hP
  have hD : va_D A [(d, .inr (1, [.ref h, .ref y, .ref q_1, .int 0, .int 0, .ref q_3, .null, .int 0])), (q_1, .inl (k_2, 40, .inr (.inr (.inr (.inr (va_up fa10 (11 : Int32).toNatClampNeg (some q_127))))))), (q_3, .inl (k_4, 3020, .inl (fun _ => 0))), (q_127, .inr (2, [.int 0, .int 0, .int 0, .ref q3_129, .int 0, .ref q5_130, .int 0, .int 0, .int 0, .int 0, .ref q10_131, .ref q11_132, .ref q12_133, .ref q13_134, .ref q14_135, .ref q15_136, .int 0, .int 0, .int 0, .int 0, .int 0, .int 0]))] := hD
  obtain ⟨fa11, efa11⟩ : ∃ z : Nat → Option Nat, z = va_up fa10 (11 : Int32).toNatClampNeg (some q_127) := ⟨_, rfl⟩
  rw [← efa11] at hP hD
  have hP := hP.sub (ws' := [(d, .inr (1, [.ref h, .ref y, .ref q_1, .int 0, .int 0, .ref q_3, .null, .int 0])), (q_1, .inl (k_2, 40, .inr (.inr (.inr (.inr fa11))))), (q_3, .inl (k_4, 3020, .inl (fun _ => 0)))]) [0, 1, 2] rfl
  have hD := hD.sub (ws' := [(d, .inr (1, [.ref h, .ref y, .ref q_1, .int 0, .int 0, .ref q_3, .null, .int 0])), (q_1, .inl (k_2, 40, .inr (.inr (.inr (.inr fa11))))), (q_3, .inl (k_4, 3020, .inl (fun _ => 0)))]) [0, 1, 2] (by decide) rfl
  have hK := hK.sub (tys' := [(k_2, .object RX2), (k_4, .int)]) [0, 1] rfl
  refine lv_iinc (v := 12) (lv' := [(3, .int 12), (0, .ref d), (1, .ref h), (2, .ref y)]) hx hb dX1_init_53 hl (k := 0) rfl (by decide) (by decide) rfl (fun ls hl => ?_)
  refine lv_goto (tgt := 34) hx hb dX1_init_56 (by decide) ?_
  refine lv_iload_n hx hb dX1_init_34 rfl (lv_at hl 0 rfl) ?_
  refine lv_bipush (v := 40) hx hb dX1_init_35 (by decide) ?_
  refine lv_icmp_ge (tgt := 59) hx hb dX1_init_37 (by decide) (fun c_137 => absurd c_137 (by decide)) (fun _ => ?_)
  refine lv_aload_n hx hb dX1_init_40 rfl (lv_at hl 1 rfl) ?_
  refine va_get (D := (dC, dI)) (ci := 1) (v := .ref q_1) (C := RX1) (T := TX1) (N := 8) hx hb hts in_c_decl_X1 hown hK hP 0 rfl rfl 2 (by decide) (hts (.fieldLink RX1 11 "OwnedPlaces$Declarations" "functions" "[LOwnedPlaces$Function;") (wm_c_decl 5 rfl)) (fun _ h9 => h9) rfl dX1_init_41 ?_
  refine lv_iload_n hx hb dX1_init_44 rfl (lv_at hl 0 rfl) ?_
  refine va_new (ci := 2) (fs := [.int 0, .int 0, .int 0, .null, .int 0, .null, .int 0, .int 0, .int 0, .int 0, .null, .null, .null, .null, .null, .null, .int 0, .int 0, .int 0, .int 0, .int 0, .int 0]) (C := RX2) (T := TX2) (N := 22) hx hb hts in_c_decl_X2 tyX2 tyX2_ok hown (hts (.classLink RX1 9 RX2) (wm_c_decl 4 rfl)) (hts (.instantiable RX2 22) (wm_c_decl 10 rfl)) (hts (.initialized RX2) (wm_c_decl 11 rfl)) hK hP hD hS hA rfl dv_X2 (show 110 + 1 ≤ 362 by omega) (show 6444 + 22 ≤ 14340 by omega) dX1_init_45 (fun q_138 H hP hD hS => ?_)
  have hP : va_P (dC, dI) vwCl [(d, .inr (1, [.ref h, .ref y, .ref q_1, .int 0, .int 0, .ref q_3, .null, .int 0])), (q_1, .inl (k_2, 40, .inr (.inr (.inr (.inr fa11))))), (q_3, .inl (k_4, 3020, .inl (fun _ => 0))), (q_138, .inr (2, [.int 0, .int 0, .int 0, .null, .int 0, .null, .int 0, .int 0, .int 0, .int 0, .null, .null, .null, .null, .null, .null, .int 0, .int 0, .int 0, .int 0, .int 0, .int 0]))] H := hP
  have hD : va_D A [(d, .inr (1, [.ref h, .ref y, .ref q_1, .int 0, .int 0, .ref q_3, .null, .int 0])), (q_1, .inl (k_2, 40, .inr (.inr (.inr (.inr fa11))))), (q_3, .inl (k_4, 3020, .inl (fun _ => 0))), (q_138, .inr (2, [.int 0, .int 0, .int 0, .null, .int 0, .null, .int 0, .int 0, .int 0, .int 0, .null, .null, .null, .null, .null, .null, .int 0, .int 0, .int 0, .int 0, .int 0, .int 0]))] := hD
  refine W.widen (k := 111) (n := 6466) (by omega) (by omega) ?_
  refine lv_dup hx hb dX1_init_48 rfl ?_
  have hPc := hP.sub (ws' := [(q_138, .inr (2, [.int 0, .int 0, .int 0, .null, .int 0, .null, .int 0, .int 0, .int 0, .int 0, .null, .null, .null, .null, .null, .null, .int 0, .int 0, .int 0, .int 0, .int 0, .int 0]))]) [3] rfl
  have hDc := hD.sub (ws' := [(q_138, .inr (2, [.int 0, .int 0, .int 0, .null, .int 0, .null, .int 0, .int 0, .int 0, .int 0, .null, .null, .null, .null, .null, .null, .int 0, .int 0, .int 0, .int 0, .int 0, .int 0]))]) [3] (by decide) rfl
  have hKc := hK.sub (tys' := []) [] rfl
  have hFc := va_free (wc := [(q_138, .inr (2, [.int 0, .int 0, .int 0, .null, .int 0, .null, .int 0, .int 0, .int 0, .int 0, .null, .null, .null, .null, .null, .null, .int 0, .int 0, .int 0, .int 0, .int 0, .int 0]))]) hD hS hA [3] rfl
  refine va_callv (va_runIN (As := []) (rest := [.ref q_138, .int 12, .ref q_1]) ⟨hx, hb, hml, hown, hts⟩ (c_function l dC dI q_138 H.size) ⟨va_cnB 0 hts g_c_decl_c_function_49 rfl rfl rfl hpre0 (hts (.initialized RX2) (wm_c_decl 11 rfl)) (by decide +kernel) ⟨Nat.le_of_ble_eq_true rfl, Nat.le_of_ble_eq_true rfl⟩, rfl, (hts (.instanceMethod yX2_init) (wm_c_decl 23 rfl))⟩ ⟨fun a U g mk q => by obtain ⟨q0, q1, qP, qK, qD⟩ := q; exact ⟨q0, q1, qP, va_K.moved (u := U) (U := U.calling g mk a) (Vm.Alike.refl U.vm) qK, qD⟩, fun U hU hW => ⟨rfl, by rw [hU], by rw [hU]; exact hPc, va_K.moved hW.alike hKc, hDc.weaken (fun _ _ _ _ => trivial)⟩⟩ rfl rfl hl.1 rfl (lv_room (Nat.le_of_ble_eq_true rfl)) dX1_init_49 ⟨(show 111 + 8 ≤ 362 by omega), (show 6466 + 260 ≤ 14340 by omega)⟩) hS (fun q _ h => hFc q h) hFc (fun u tS H1 locs ht hvm hw hB hz1 hk1 hS => ?_)
  obtain ⟨q3_140, q5_141, q10_142, q11_143, q12_144, q13_145, q14_146, q15_147, hP1, hK1, hD1⟩ := hB
  rw [ht] at hP1
  have hK1 := va_K.moved hvm.symm hK1
  obtain ⟨hP, hD⟩ := va_join (wr := [(d, .inr (1, [.ref h, .ref y, .ref q_1, .int 0, .int 0, .ref q_3, .null, .int 0])), (q_1, .inl (k_2, 40, .inr (.inr (.inr (.inr fa11))))), (q_3, .inl (k_4, 3020, .inl (fun _ => 0)))]) (w1 := [(q_138, .inr (2, [.int 0, .int 0, .int 0, .ref q3_140, .int 0, .ref q5_141, .int 0, .int 0, .int 0, .int 0, .ref q10_142, .ref q11_143, .ref q12_144, .ref q13_145, .ref q14_146, .ref q15_147, .int 0, .int 0, .int 0, .int 0, .int 0, .int 0]))]) hP hD [3] [0, 1, 2] rfl rfl (by decide) (by decide) hk1 hFc hP1 hD1
  generalize H1 = H at hP hS ⊢
  have hP : va_P (dC, dI) vwCl [(d, .inr (1, [.ref h, .ref y, .ref q_1, .int 0, .int 0, .ref q_3, .null, .int 0])), (q_1, .inl (k_2, 40, .inr (.inr (.inr (.inr fa11))))), (q_3, .inl (k_4, 3020, .inl (fun _ => 0))), (q_138, .inr (2, [.int 0, .int 0, .int 0, .ref q3_140, .int 0, .ref q5_141, .int 0, .int 0, .int 0, .int 0, .ref q10_142, .ref q11_143, .ref q12_144, .ref q13_145, .ref q14_146, .ref q15_147, .int 0, .int 0, .int 0, .int 0, .int 0, .int 0]))] H := hP
  have hD : va_D A [(d, .inr (1, [.ref h, .ref y, .ref q_1, .int 0, .int 0, .ref q_3, .null, .int 0])), (q_1, .inl (k_2, 40, .inr (.inr (.inr (.inr fa11))))), (q_3, .inl (k_4, 3020, .inl (fun _ => 0))), (q_138, .inr (2, [.int 0, .int 0, .int 0, .ref q3_140, .int 0, .ref q5_141, .int 0, .int 0, .int 0, .int 0, .ref q10_142, .ref q11_143, .ref q12_144, .ref q13_145, .ref q14_146, .ref q15_147, .int 0, .int 0, .int 0, .int 0, .int 0, .int 0]))] := hD
  have hK : va_K (dC, dI) vwCl [(k_2, .object RX2), (k_4, .int)] s := hK
  refine W.widen (k := 119) (n := 6726) (by omega) (by omega) ?_
  refine va_astq hx hb hK hP hD hS 1 0 3 2 rfl rfl rfl rfl (by unfold vp_in; decide) dX1_init_52 (fun H locs hP hD hS => ?_)
  have hP : va_P (dC, dI) vwCl [(d, .inr (1, [.ref h, .ref y, .ref q_1, .int 0, .int 0, .ref q_3, .null, .int 0])), (q_1, .inl (k_2, 40, .inr (.inr (.inr (.inr (va_up fa11 (12 : Int32).toNatClampNeg (some q_138))))))), (q_3, .inl (k_4, 3020, .inl (fun _ => 0))), (q_138, .inr (2, [.int 0, .int 0, .int 0, .ref q3_140, .int 0, .ref q5_141, .int 0, .int 0, .int 0, .int 0, .ref q10_142, .ref q11_143, .ref q12_144, .ref q13_145, .ref q14_146, .ref q15_147, .int 0, .int 0, .int 0, .int 0, .int 0, .int 0]))] H := hP
  have hD : va_D A [(d, .inr (1, [.ref h, .ref y, .ref q_1, .int 0, .int 0, .ref q_3, .null, .int 0])), (q_1, .inl (k_2, 40, .inr (.inr (.inr (.inr (va_up fa11 (12 : Int32).toNatClampNeg (some q_138))))))), (q_3, .inl (k_4, 3020, .inl (fun _ => 0))), (q_138, .inr (2, [.int 0, .int 0, .int 0, .ref q3_140, .int 0, .ref q5_141, .int 0, .int 0, .int 0, .int 0, .ref q10_142, .ref q11_143, .ref q12_144, .ref q13_145, .ref q14_146, .ref q15_147, .int 0, .int 0, .int 0, .int 0, .int 0, .int 0]))] := hD
  obtain ⟨fa12, efa12⟩ : ∃ z : Nat → Option Nat, z = va_up fa11 (12 : Int32).toNatClampNeg (some q_138) := ⟨_, rfl⟩
  rw [← efa12] at hP hD
  have hP := hP.sub (ws' := [(d, .inr (1, [.ref h, .ref y, .ref q_1, .int 0, .int 0, .ref q_3, .null, .int 0])), (q_1, .inl (k_2, 40, .inr (.inr (.inr (.inr fa12))))), (q_3, .inl (k_4, 3020, .inl (fun _ => 0)))]) [0, 1, 2] rfl
  have hD := hD.sub (ws' := [(d, .inr (1, [.ref h, .ref y, .ref q_1, .int 0, .int 0, .ref q_3, .null, .int 0])), (q_1, .inl (k_2, 40, .inr (.inr (.inr (.inr fa12))))), (q_3, .inl (k_4, 3020, .inl (fun _ => 0)))]) [0, 1, 2] (by decide) rfl
  have hK := hK.sub (tys' := [(k_2, .object RX2), (k_4, .int)]) [0, 1] rfl
  refine lv_iinc (v := 13) (lv' := [(3, .int 13), (0, .ref d), (1, .ref h), (2, .ref y)]) hx hb dX1_init_53 hl (k := 0) rfl (by decide) (by decide) rfl (fun ls hl => ?_)
  refine lv_goto (tgt := 34) hx hb dX1_init_56 (by decide) ?_
  refine lv_iload_n hx hb dX1_init_34 rfl (lv_at hl 0 rfl) ?_
  refine lv_bipush (v := 40) hx hb dX1_init_35 (by decide) ?_
  refine lv_icmp_ge (tgt := 59) hx hb dX1_init_37 (by decide) (fun c_148 => absurd c_148 (by decide)) (fun _ => ?_)
  refine lv_aload_n hx hb dX1_init_40 rfl (lv_at hl 1 rfl) ?_
  refine va_get (D := (dC, dI)) (ci := 1) (v := .ref q_1) (C := RX1) (T := TX1) (N := 8) hx hb hts in_c_decl_X1 hown hK hP 0 rfl rfl 2 (by decide) (hts (.fieldLink RX1 11 "OwnedPlaces$Declarations" "functions" "[LOwnedPlaces$Function;") (wm_c_decl 5 rfl)) (fun _ h9 => h9) rfl dX1_init_41 ?_
  refine lv_iload_n hx hb dX1_init_44 rfl (lv_at hl 0 rfl) ?_
  refine va_new (ci := 2) (fs := [.int 0, .int 0, .int 0, .null, .int 0, .null, .int 0, .int 0, .int 0, .int 0, .null, .null, .null, .null, .null, .null, .int 0, .int 0, .int 0, .int 0, .int 0, .int 0]) (C := RX2) (T := TX2) (N := 22) hx hb hts in_c_decl_X2 tyX2 tyX2_ok hown (hts (.classLink RX1 9 RX2) (wm_c_decl 4 rfl)) (hts (.instantiable RX2 22) (wm_c_decl 10 rfl)) (hts (.initialized RX2) (wm_c_decl 11 rfl)) hK hP hD hS hA rfl dv_X2 (show 119 + 1 ≤ 362 by omega) (show 6726 + 22 ≤ 14340 by omega) dX1_init_45 (fun q_149 H hP hD hS => ?_)
  have hP : va_P (dC, dI) vwCl [(d, .inr (1, [.ref h, .ref y, .ref q_1, .int 0, .int 0, .ref q_3, .null, .int 0])), (q_1, .inl (k_2, 40, .inr (.inr (.inr (.inr fa12))))), (q_3, .inl (k_4, 3020, .inl (fun _ => 0))), (q_149, .inr (2, [.int 0, .int 0, .int 0, .null, .int 0, .null, .int 0, .int 0, .int 0, .int 0, .null, .null, .null, .null, .null, .null, .int 0, .int 0, .int 0, .int 0, .int 0, .int 0]))] H := hP
  have hD : va_D A [(d, .inr (1, [.ref h, .ref y, .ref q_1, .int 0, .int 0, .ref q_3, .null, .int 0])), (q_1, .inl (k_2, 40, .inr (.inr (.inr (.inr fa12))))), (q_3, .inl (k_4, 3020, .inl (fun _ => 0))), (q_149, .inr (2, [.int 0, .int 0, .int 0, .null, .int 0, .null, .int 0, .int 0, .int 0, .int 0, .null, .null, .null, .null, .null, .null, .int 0, .int 0, .int 0, .int 0, .int 0, .int 0]))] := hD
  refine W.widen (k := 120) (n := 6748) (by omega) (by omega) ?_
  refine lv_dup hx hb dX1_init_48 rfl ?_
  have hPc := hP.sub (ws' := [(q_149, .inr (2, [.int 0, .int 0, .int 0, .null, .int 0, .null, .int 0, .int 0, .int 0, .int 0, .null, .null, .null, .null, .null, .null, .int 0, .int 0, .int 0, .int 0, .int 0, .int 0]))]) [3] rfl
  have hDc := hD.sub (ws' := [(q_149, .inr (2, [.int 0, .int 0, .int 0, .null, .int 0, .null, .int 0, .int 0, .int 0, .int 0, .null, .null, .null, .null, .null, .null, .int 0, .int 0, .int 0, .int 0, .int 0, .int 0]))]) [3] (by decide) rfl
  have hKc := hK.sub (tys' := []) [] rfl
  have hFc := va_free (wc := [(q_149, .inr (2, [.int 0, .int 0, .int 0, .null, .int 0, .null, .int 0, .int 0, .int 0, .int 0, .null, .null, .null, .null, .null, .null, .int 0, .int 0, .int 0, .int 0, .int 0, .int 0]))]) hD hS hA [3] rfl
  refine va_callv (va_runIN (As := []) (rest := [.ref q_149, .int 13, .ref q_1]) ⟨hx, hb, hml, hown, hts⟩ (c_function l dC dI q_149 H.size) ⟨va_cnB 0 hts g_c_decl_c_function_49 rfl rfl rfl hpre0 (hts (.initialized RX2) (wm_c_decl 11 rfl)) (by decide +kernel) ⟨Nat.le_of_ble_eq_true rfl, Nat.le_of_ble_eq_true rfl⟩, rfl, (hts (.instanceMethod yX2_init) (wm_c_decl 23 rfl))⟩ ⟨fun a U g mk q => by obtain ⟨q0, q1, qP, qK, qD⟩ := q; exact ⟨q0, q1, qP, va_K.moved (u := U) (U := U.calling g mk a) (Vm.Alike.refl U.vm) qK, qD⟩, fun U hU hW => ⟨rfl, by rw [hU], by rw [hU]; exact hPc, va_K.moved hW.alike hKc, hDc.weaken (fun _ _ _ _ => trivial)⟩⟩ rfl rfl hl.1 rfl (lv_room (Nat.le_of_ble_eq_true rfl)) dX1_init_49 ⟨(show 120 + 8 ≤ 362 by omega), (show 6748 + 260 ≤ 14340 by omega)⟩) hS (fun q _ h => hFc q h) hFc (fun u tS H1 locs ht hvm hw hB hz1 hk1 hS => ?_)
  obtain ⟨q3_151, q5_152, q10_153, q11_154, q12_155, q13_156, q14_157, q15_158, hP1, hK1, hD1⟩ := hB
  rw [ht] at hP1
  have hK1 := va_K.moved hvm.symm hK1
  obtain ⟨hP, hD⟩ := va_join (wr := [(d, .inr (1, [.ref h, .ref y, .ref q_1, .int 0, .int 0, .ref q_3, .null, .int 0])), (q_1, .inl (k_2, 40, .inr (.inr (.inr (.inr fa12))))), (q_3, .inl (k_4, 3020, .inl (fun _ => 0)))]) (w1 := [(q_149, .inr (2, [.int 0, .int 0, .int 0, .ref q3_151, .int 0, .ref q5_152, .int 0, .int 0, .int 0, .int 0, .ref q10_153, .ref q11_154, .ref q12_155, .ref q13_156, .ref q14_157, .ref q15_158, .int 0, .int 0, .int 0, .int 0, .int 0, .int 0]))]) hP hD [3] [0, 1, 2] rfl rfl (by decide) (by decide) hk1 hFc hP1 hD1
  generalize H1 = H at hP hS ⊢
  have hP : va_P (dC, dI) vwCl [(d, .inr (1, [.ref h, .ref y, .ref q_1, .int 0, .int 0, .ref q_3, .null, .int 0])), (q_1, .inl (k_2, 40, .inr (.inr (.inr (.inr fa12))))), (q_3, .inl (k_4, 3020, .inl (fun _ => 0))), (q_149, .inr (2, [.int 0, .int 0, .int 0, .ref q3_151, .int 0, .ref q5_152, .int 0, .int 0, .int 0, .int 0, .ref q10_153, .ref q11_154, .ref q12_155, .ref q13_156, .ref q14_157, .ref q15_158, .int 0, .int 0, .int 0, .int 0, .int 0, .int 0]))] H := hP
  have hD : va_D A [(d, .inr (1, [.ref h, .ref y, .ref q_1, .int 0, .int 0, .ref q_3, .null, .int 0])), (q_1, .inl (k_2, 40, .inr (.inr (.inr (.inr fa12))))), (q_3, .inl (k_4, 3020, .inl (fun _ => 0))), (q_149, .inr (2, [.int 0, .int 0, .int 0, .ref q3_151, .int 0, .ref q5_152, .int 0, .int 0, .int 0, .int 0, .ref q10_153, .ref q11_154, .ref q12_155, .ref q13_156, .ref q14_157, .ref q15_158, .int 0, .int 0, .int 0, .int 0, .int 0, .int 0]))] := hD
  have hK : va_K (dC, dI) vwCl [(k_2, .object RX2), (k_4, .int)] s := hK
  refine W.widen (k := 128) (n := 7008) (by omega) (by omega) ?_
  refine va_astq hx hb hK hP hD hS 1 0 3 2 rfl rfl rfl rfl (by unfold vp_in; decide) dX1_init_52 (fun H locs hP hD hS => ?_)
  have hP : va_P (dC, dI) vwCl [(d, .inr (1, [.ref h, .ref y, .ref q_1, .int 0, .int 0, .ref q_3, .null, .int 0])), (q_1, .inl (k_2, 40, .inr (.inr (.inr (.inr (va_up fa12 (13 : Int32).toNatClampNeg (some q_149))))))), (q_3, .inl (k_4, 3020, .inl (fun _ => 0))), (q_149, .inr (2, [.int 0, .int 0, .int 0, .ref q3_151, .int 0, .ref q5_152, .int 0, .int 0, .int 0, .int 0, .ref q10_153, .ref q11_154, .ref q12_155, .ref q13_156, .ref q14_157, .ref q15_158, .int 0, .int 0, .int 0, .int 0, .int 0, .int 0]))] H := hP
  have hD : va_D A [(d, .inr (1, [.ref h, .ref y, .ref q_1, .int 0, .int 0, .ref q_3, .null, .int 0])), (q_1, .inl (k_2, 40, .inr (.inr (.inr (.inr (va_up fa12 (13 : Int32).toNatClampNeg (some q_149))))))), (q_3, .inl (k_4, 3020, .inl (fun _ => 0))), (q_149, .inr (2, [.int 0, .int 0, .int 0, .ref q3_151, .int 0, .ref q5_152, .int 0, .int 0, .int 0, .int 0, .ref q10_153, .ref q11_154, .ref q12_155, .ref q13_156, .ref q14_157, .ref q15_158, .int 0, .int 0, .int 0, .int 0, .int 0, .int 0]))] := hD
  obtain ⟨fa13, efa13⟩ : ∃ z : Nat → Option Nat, z = va_up fa12 (13 : Int32).toNatClampNeg (some q_149) := ⟨_, rfl⟩
  rw [← efa13] at hP hD
  have hP := hP.sub (ws' := [(d, .inr (1, [.ref h, .ref y, .ref q_1, .int 0, .int 0, .ref q_3, .null, .int 0])), (q_1, .inl (k_2, 40, .inr (.inr (.inr (.inr fa13))))), (q_3, .inl (k_4, 3020, .inl (fun _ => 0)))]) [0, 1, 2] rfl
  have hD := hD.sub (ws' := [(d, .inr (1, [.ref h, .ref y, .ref q_1, .int 0, .int 0, .ref q_3, .null, .int 0])), (q_1, .inl (k_2, 40, .inr (.inr (.inr (.inr fa13))))), (q_3, .inl (k_4, 3020, .inl (fun _ => 0)))]) [0, 1, 2] (by decide) rfl
  have hK := hK.sub (tys' := [(k_2, .object RX2), (k_4, .int)]) [0, 1] rfl
  refine lv_iinc (v := 14) (lv' := [(3, .int 14), (0, .ref d), (1, .ref h), (2, .ref y)]) hx hb dX1_init_53 hl (k := 0) rfl (by decide) (by decide) rfl (fun ls hl => ?_)
  refine lv_goto (tgt := 34) hx hb dX1_init_56 (by decide) ?_
  refine lv_iload_n hx hb dX1_init_34 rfl (lv_at hl 0 rfl) ?_
  refine lv_bipush (v := 40) hx hb dX1_init_35 (by decide) ?_
  refine lv_icmp_ge (tgt := 59) hx hb dX1_init_37 (by decide) (fun c_159 => absurd c_159 (by decide)) (fun _ => ?_)
  refine lv_aload_n hx hb dX1_init_40 rfl (lv_at hl 1 rfl) ?_
  refine va_get (D := (dC, dI)) (ci := 1) (v := .ref q_1) (C := RX1) (T := TX1) (N := 8) hx hb hts in_c_decl_X1 hown hK hP 0 rfl rfl 2 (by decide) (hts (.fieldLink RX1 11 "OwnedPlaces$Declarations" "functions" "[LOwnedPlaces$Function;") (wm_c_decl 5 rfl)) (fun _ h9 => h9) rfl dX1_init_41 ?_
  refine lv_iload_n hx hb dX1_init_44 rfl (lv_at hl 0 rfl) ?_
  refine va_new (ci := 2) (fs := [.int 0, .int 0, .int 0, .null, .int 0, .null, .int 0, .int 0, .int 0, .int 0, .null, .null, .null, .null, .null, .null, .int 0, .int 0, .int 0, .int 0, .int 0, .int 0]) (C := RX2) (T := TX2) (N := 22) hx hb hts in_c_decl_X2 tyX2 tyX2_ok hown (hts (.classLink RX1 9 RX2) (wm_c_decl 4 rfl)) (hts (.instantiable RX2 22) (wm_c_decl 10 rfl)) (hts (.initialized RX2) (wm_c_decl 11 rfl)) hK hP hD hS hA rfl dv_X2 (show 128 + 1 ≤ 362 by omega) (show 7008 + 22 ≤ 14340 by omega) dX1_init_45 (fun q_160 H hP hD hS => ?_)
  have hP : va_P (dC, dI) vwCl [(d, .inr (1, [.ref h, .ref y, .ref q_1, .int 0, .int 0, .ref q_3, .null, .int 0])), (q_1, .inl (k_2, 40, .inr (.inr (.inr (.inr fa13))))), (q_3, .inl (k_4, 3020, .inl (fun _ => 0))), (q_160, .inr (2, [.int 0, .int 0, .int 0, .null, .int 0, .null, .int 0, .int 0, .int 0, .int 0, .null, .null, .null, .null, .null, .null, .int 0, .int 0, .int 0, .int 0, .int 0, .int 0]))] H := hP
  have hD : va_D A [(d, .inr (1, [.ref h, .ref y, .ref q_1, .int 0, .int 0, .ref q_3, .null, .int 0])), (q_1, .inl (k_2, 40, .inr (.inr (.inr (.inr fa13))))), (q_3, .inl (k_4, 3020, .inl (fun _ => 0))), (q_160, .inr (2, [.int 0, .int 0, .int 0, .null, .int 0, .null, .int 0, .int 0, .int 0, .int 0, .null, .null, .null, .null, .null, .null, .int 0, .int 0, .int 0, .int 0, .int 0, .int 0]))] := hD
  refine W.widen (k := 129) (n := 7030) (by omega) (by omega) ?_
  refine lv_dup hx hb dX1_init_48 rfl ?_
  have hPc := hP.sub (ws' := [(q_160, .inr (2, [.int 0, .int 0, .int 0, .null, .int 0, .null, .int 0, .int 0, .int 0, .int 0, .null, .null, .null, .null, .null, .null, .int 0, .int 0, .int 0, .int 0, .int 0, .int 0]))]) [3] rfl
  have hDc := hD.sub (ws' := [(q_160, .inr (2, [.int 0, .int 0, .int 0, .null, .int 0, .null, .int 0, .int 0, .int 0, .int 0, .null, .null, .null, .null, .null, .null, .int 0, .int 0, .int 0, .int 0, .int 0, .int 0]))]) [3] (by decide) rfl
  have hKc := hK.sub (tys' := []) [] rfl
  have hFc := va_free (wc := [(q_160, .inr (2, [.int 0, .int 0, .int 0, .null, .int 0, .null, .int 0, .int 0, .int 0, .int 0, .null, .null, .null, .null, .null, .null, .int 0, .int 0, .int 0, .int 0, .int 0, .int 0]))]) hD hS hA [3] rfl
  refine va_callv (va_runIN (As := []) (rest := [.ref q_160, .int 14, .ref q_1]) ⟨hx, hb, hml, hown, hts⟩ (c_function l dC dI q_160 H.size) ⟨va_cnB 0 hts g_c_decl_c_function_49 rfl rfl rfl hpre0 (hts (.initialized RX2) (wm_c_decl 11 rfl)) (by decide +kernel) ⟨Nat.le_of_ble_eq_true rfl, Nat.le_of_ble_eq_true rfl⟩, rfl, (hts (.instanceMethod yX2_init) (wm_c_decl 23 rfl))⟩ ⟨fun a U g mk q => by obtain ⟨q0, q1, qP, qK, qD⟩ := q; exact ⟨q0, q1, qP, va_K.moved (u := U) (U := U.calling g mk a) (Vm.Alike.refl U.vm) qK, qD⟩, fun U hU hW => ⟨rfl, by rw [hU], by rw [hU]; exact hPc, va_K.moved hW.alike hKc, hDc.weaken (fun _ _ _ _ => trivial)⟩⟩ rfl rfl hl.1 rfl (lv_room (Nat.le_of_ble_eq_true rfl)) dX1_init_49 ⟨(show 129 + 8 ≤ 362 by omega), (show 7030 + 260 ≤ 14340 by omega)⟩) hS (fun q _ h => hFc q h) hFc (fun u tS H1 locs ht hvm hw hB hz1 hk1 hS => ?_)
  obtain ⟨q3_162, q5_163, q10_164, q11_165, q12_166, q13_167, q14_168, q15_169, hP1, hK1, hD1⟩ := hB
  rw [ht] at hP1
  have hK1 := va_K.moved hvm.symm hK1
  obtain ⟨hP, hD⟩ := va_join (wr := [(d, .inr (1, [.ref h, .ref y, .ref q_1, .int 0, .int 0, .ref q_3, .null, .int 0])), (q_1, .inl (k_2, 40, .inr (.inr (.inr (.inr fa13))))), (q_3, .inl (k_4, 3020, .inl (fun _ => 0)))]) (w1 := [(q_160, .inr (2, [.int 0, .int 0, .int 0, .ref q3_162, .int 0, .ref q5_163, .int 0, .int 0, .int 0, .int 0, .ref q10_164, .ref q11_165, .ref q12_166, .ref q13_167, .ref q14_168, .ref q15_169, .int 0, .int 0, .int 0, .int 0, .int 0, .int 0]))]) hP hD [3] [0, 1, 2] rfl rfl (by decide) (by decide) hk1 hFc hP1 hD1
  generalize H1 = H at hP hS ⊢
  have hP : va_P (dC, dI) vwCl [(d, .inr (1, [.ref h, .ref y, .ref q_1, .int 0, .int 0, .ref q_3, .null, .int 0])), (q_1, .inl (k_2, 40, .inr (.inr (.inr (.inr fa13))))), (q_3, .inl (k_4, 3020, .inl (fun _ => 0))), (q_160, .inr (2, [.int 0, .int 0, .int 0, .ref q3_162, .int 0, .ref q5_163, .int 0, .int 0, .int 0, .int 0, .ref q10_164, .ref q11_165, .ref q12_166, .ref q13_167, .ref q14_168, .ref q15_169, .int 0, .int 0, .int 0, .int 0, .int 0, .int 0]))] H := hP
  have hD : va_D A [(d, .inr (1, [.ref h, .ref y, .ref q_1, .int 0, .int 0, .ref q_3, .null, .int 0])), (q_1, .inl (k_2, 40, .inr (.inr (.inr (.inr fa13))))), (q_3, .inl (k_4, 3020, .inl (fun _ => 0))), (q_160, .inr (2, [.int 0, .int 0, .int 0, .ref q3_162, .int 0, .ref q5_163, .int 0, .int 0, .int 0, .int 0, .ref q10_164, .ref q11_165, .ref q12_166, .ref q13_167, .ref q14_168, .ref q15_169, .int 0, .int 0, .int 0, .int 0, .int 0, .int 0]))] := hD
  have hK : va_K (dC, dI) vwCl [(k_2, .object RX2), (k_4, .int)] s := hK
  refine W.widen (k := 137) (n := 7290) (by omega) (by omega) ?_
  refine va_astq hx hb hK hP hD hS 1 0 3 2 rfl rfl rfl rfl (by unfold vp_in; decide) dX1_init_52 (fun H locs hP hD hS => ?_)
  have hP : va_P (dC, dI) vwCl [(d, .inr (1, [.ref h, .ref y, .ref q_1, .int 0, .int 0, .ref q_3, .null, .int 0])), (q_1, .inl (k_2, 40, .inr (.inr (.inr (.inr (va_up fa13 (14 : Int32).toNatClampNeg (some q_160))))))), (q_3, .inl (k_4, 3020, .inl (fun _ => 0))), (q_160, .inr (2, [.int 0, .int 0, .int 0, .ref q3_162, .int 0, .ref q5_163, .int 0, .int 0, .int 0, .int 0, .ref q10_164, .ref q11_165, .ref q12_166, .ref q13_167, .ref q14_168, .ref q15_169, .int 0, .int 0, .int 0, .int 0, .int 0, .int 0]))] H := hP
  have hD : va_D A [(d, .inr (1, [.ref h, .ref y, .ref q_1, .int 0, .int 0, .ref q_3, .null, .int 0])), (q_1, .inl (k_2, 40, .inr (.inr (.inr (.inr (va_up fa13 (14 : Int32).toNatClampNeg (some q_160))))))), (q_3, .inl (k_4, 3020, .inl (fun _ => 0))), (q_160, .inr (2, [.int 0, .int 0, .int 0, .ref q3_162, .int 0, .ref q5_163, .int 0, .int 0, .int 0, .int 0, .ref q10_164, .ref q11_165, .ref q12_166, .ref q13_167, .ref q14_168, .ref q15_169, .int 0, .int 0, .int 0, .int 0, .int 0, .int 0]))] := hD
  obtain ⟨fa14, efa14⟩ : ∃ z : Nat → Option Nat, z = va_up fa13 (14 : Int32).toNatClampNeg (some q_160) := ⟨_, rfl⟩
  rw [← efa14] at hP hD
  have hP := hP.sub (ws' := [(d, .inr (1, [.ref h, .ref y, .ref q_1, .int 0, .int 0, .ref q_3, .null, .int 0])), (q_1, .inl (k_2, 40, .inr (.inr (.inr (.inr fa14))))), (q_3, .inl (k_4, 3020, .inl (fun _ => 0)))]) [0, 1, 2] rfl
  have hD := hD.sub (ws' := [(d, .inr (1, [.ref h, .ref y, .ref q_1, .int 0, .int 0, .ref q_3, .null, .int 0])), (q_1, .inl (k_2, 40, .inr (.inr (.inr (.inr fa14))))), (q_3, .inl (k_4, 3020, .inl (fun _ => 0)))]) [0, 1, 2] (by decide) rfl
  have hK := hK.sub (tys' := [(k_2, .object RX2), (k_4, .int)]) [0, 1] rfl
  refine lv_iinc (v := 15) (lv' := [(3, .int 15), (0, .ref d), (1, .ref h), (2, .ref y)]) hx hb dX1_init_53 hl (k := 0) rfl (by decide) (by decide) rfl (fun ls hl => ?_)
  refine lv_goto (tgt := 34) hx hb dX1_init_56 (by decide) ?_
  refine lv_iload_n hx hb dX1_init_34 rfl (lv_at hl 0 rfl) ?_
  refine lv_bipush (v := 40) hx hb dX1_init_35 (by decide) ?_
  refine lv_icmp_ge (tgt := 59) hx hb dX1_init_37 (by decide) (fun c_170 => absurd c_170 (by decide)) (fun _ => ?_)
  refine lv_aload_n hx hb dX1_init_40 rfl (lv_at hl 1 rfl) ?_
  refine va_get (D := (dC, dI)) (ci := 1) (v := .ref q_1) (C := RX1) (T := TX1) (N := 8) hx hb hts in_c_decl_X1 hown hK hP 0 rfl rfl 2 (by decide) (hts (.fieldLink RX1 11 "OwnedPlaces$Declarations" "functions" "[LOwnedPlaces$Function;") (wm_c_decl 5 rfl)) (fun _ h9 => h9) rfl dX1_init_41 ?_
  refine lv_iload_n hx hb dX1_init_44 rfl (lv_at hl 0 rfl) ?_
  refine va_new (ci := 2) (fs := [.int 0, .int 0, .int 0, .null, .int 0, .null, .int 0, .int 0, .int 0, .int 0, .null, .null, .null, .null, .null, .null, .int 0, .int 0, .int 0, .int 0, .int 0, .int 0]) (C := RX2) (T := TX2) (N := 22) hx hb hts in_c_decl_X2 tyX2 tyX2_ok hown (hts (.classLink RX1 9 RX2) (wm_c_decl 4 rfl)) (hts (.instantiable RX2 22) (wm_c_decl 10 rfl)) (hts (.initialized RX2) (wm_c_decl 11 rfl)) hK hP hD hS hA rfl dv_X2 (show 137 + 1 ≤ 362 by omega) (show 7290 + 22 ≤ 14340 by omega) dX1_init_45 (fun q_171 H hP hD hS => ?_)
  have hP : va_P (dC, dI) vwCl [(d, .inr (1, [.ref h, .ref y, .ref q_1, .int 0, .int 0, .ref q_3, .null, .int 0])), (q_1, .inl (k_2, 40, .inr (.inr (.inr (.inr fa14))))), (q_3, .inl (k_4, 3020, .inl (fun _ => 0))), (q_171, .inr (2, [.int 0, .int 0, .int 0, .null, .int 0, .null, .int 0, .int 0, .int 0, .int 0, .null, .null, .null, .null, .null, .null, .int 0, .int 0, .int 0, .int 0, .int 0, .int 0]))] H := hP
  have hD : va_D A [(d, .inr (1, [.ref h, .ref y, .ref q_1, .int 0, .int 0, .ref q_3, .null, .int 0])), (q_1, .inl (k_2, 40, .inr (.inr (.inr (.inr fa14))))), (q_3, .inl (k_4, 3020, .inl (fun _ => 0))), (q_171, .inr (2, [.int 0, .int 0, .int 0, .null, .int 0, .null, .int 0, .int 0, .int 0, .int 0, .null, .null, .null, .null, .null, .null, .int 0, .int 0, .int 0, .int 0, .int 0, .int 0]))] := hD
  refine W.widen (k := 138) (n := 7312) (by omega) (by omega) ?_
  refine lv_dup hx hb dX1_init_48 rfl ?_
  have hPc := hP.sub (ws' := [(q_171, .inr (2, [.int 0, .int 0, .int 0, .null, .int 0, .null, .int 0, .int 0, .int 0, .int 0, .null, .null, .null, .null, .null, .null, .int 0, .int 0, .int 0, .int 0, .int 0, .int 0]))]) [3] rfl
  have hDc := hD.sub (ws' := [(q_171, .inr (2, [.int 0, .int 0, .int 0, .null, .int 0, .null, .int 0, .int 0, .int 0, .int 0, .null, .null, .null, .null, .null, .null, .int 0, .int 0, .int 0, .int 0, .int 0, .int 0]))]) [3] (by decide) rfl
  have hKc := hK.sub (tys' := []) [] rfl
  have hFc := va_free (wc := [(q_171, .inr (2, [.int 0, .int 0, .int 0, .null, .int 0, .null, .int 0, .int 0, .int 0, .int 0, .null, .null, .null, .null, .null, .null, .int 0, .int 0, .int 0, .int 0, .int 0, .int 0]))]) hD hS hA [3] rfl
  refine va_callv (va_runIN (As := []) (rest := [.ref q_171, .int 15, .ref q_1]) ⟨hx, hb, hml, hown, hts⟩ (c_function l dC dI q_171 H.size) ⟨va_cnB 0 hts g_c_decl_c_function_49 rfl rfl rfl hpre0 (hts (.initialized RX2) (wm_c_decl 11 rfl)) (by decide +kernel) ⟨Nat.le_of_ble_eq_true rfl, Nat.le_of_ble_eq_true rfl⟩, rfl, (hts (.instanceMethod yX2_init) (wm_c_decl 23 rfl))⟩ ⟨fun a U g mk q => by obtain ⟨q0, q1, qP, qK, qD⟩ := q; exact ⟨q0, q1, qP, va_K.moved (u := U) (U := U.calling g mk a) (Vm.Alike.refl U.vm) qK, qD⟩, fun U hU hW => ⟨rfl, by rw [hU], by rw [hU]; exact hPc, va_K.moved hW.alike hKc, hDc.weaken (fun _ _ _ _ => trivial)⟩⟩ rfl rfl hl.1 rfl (lv_room (Nat.le_of_ble_eq_true rfl)) dX1_init_49 ⟨(show 138 + 8 ≤ 362 by omega), (show 7312 + 260 ≤ 14340 by omega)⟩) hS (fun q _ h => hFc q h) hFc (fun u tS H1 locs ht hvm hw hB hz1 hk1 hS => ?_)
  obtain ⟨q3_173, q5_174, q10_175, q11_176, q12_177, q13_178, q14_179, q15_180, hP1, hK1, hD1⟩ := hB
  rw [ht] at hP1
  have hK1 := va_K.moved hvm.symm hK1
  obtain ⟨hP, hD⟩ := va_join (wr := [(d, .inr (1, [.ref h, .ref y, .ref q_1, .int 0, .int 0, .ref q_3, .null, .int 0])), (q_1, .inl (k_2, 40, .inr (.inr (.inr (.inr fa14))))), (q_3, .inl (k_4, 3020, .inl (fun _ => 0)))]) (w1 := [(q_171, .inr (2, [.int 0, .int 0, .int 0, .ref q3_173, .int 0, .ref q5_174, .int 0, .int 0, .int 0, .int 0, .ref q10_175, .ref q11_176, .ref q12_177, .ref q13_178, .ref q14_179, .ref q15_180, .int 0, .int 0, .int 0, .int 0, .int 0, .int 0]))]) hP hD [3] [0, 1, 2] rfl rfl (by decide) (by decide) hk1 hFc hP1 hD1
  generalize H1 = H at hP hS ⊢
  have hP : va_P (dC, dI) vwCl [(d, .inr (1, [.ref h, .ref y, .ref q_1, .int 0, .int 0, .ref q_3, .null, .int 0])), (q_1, .inl (k_2, 40, .inr (.inr (.inr (.inr fa14))))), (q_3, .inl (k_4, 3020, .inl (fun _ => 0))), (q_171, .inr (2, [.int 0, .int 0, .int 0, .ref q3_173, .int 0, .ref q5_174, .int 0, .int 0, .int 0, .int 0, .ref q10_175, .ref q11_176, .ref q12_177, .ref q13_178, .ref q14_179, .ref q15_180, .int 0, .int 0, .int 0, .int 0, .int 0, .int 0]))] H := hP
  have hD : va_D A [(d, .inr (1, [.ref h, .ref y, .ref q_1, .int 0, .int 0, .ref q_3, .null, .int 0])), (q_1, .inl (k_2, 40, .inr (.inr (.inr (.inr fa14))))), (q_3, .inl (k_4, 3020, .inl (fun _ => 0))), (q_171, .inr (2, [.int 0, .int 0, .int 0, .ref q3_173, .int 0, .ref q5_174, .int 0, .int 0, .int 0, .int 0, .ref q10_175, .ref q11_176, .ref q12_177, .ref q13_178, .ref q14_179, .ref q15_180, .int 0, .int 0, .int 0, .int 0, .int 0, .int 0]))] := hD
  have hK : va_K (dC, dI) vwCl [(k_2, .object RX2), (k_4, .int)] s := hK
  refine W.widen (k := 146) (n := 7572) (by omega) (by omega) ?_
  refine va_astq hx hb hK hP hD hS 1 0 3 2 rfl rfl rfl rfl (by unfold vp_in; decide) dX1_init_52 (fun H locs hP hD hS => ?_)
  have hP : va_P (dC, dI) vwCl [(d, .inr (1, [.ref h, .ref y, .ref q_1, .int 0, .int 0, .ref q_3, .null, .int 0])), (q_1, .inl (k_2, 40, .inr (.inr (.inr (.inr (va_up fa14 (15 : Int32).toNatClampNeg (some q_171))))))), (q_3, .inl (k_4, 3020, .inl (fun _ => 0))), (q_171, .inr (2, [.int 0, .int 0, .int 0, .ref q3_173, .int 0, .ref q5_174, .int 0, .int 0, .int 0, .int 0, .ref q10_175, .ref q11_176, .ref q12_177, .ref q13_178, .ref q14_179, .ref q15_180, .int 0, .int 0, .int 0, .int 0, .int 0, .int 0]))] H := hP
  have hD : va_D A [(d, .inr (1, [.ref h, .ref y, .ref q_1, .int 0, .int 0, .ref q_3, .null, .int 0])), (q_1, .inl (k_2, 40, .inr (.inr (.inr (.inr (va_up fa14 (15 : Int32).toNatClampNeg (some q_171))))))), (q_3, .inl (k_4, 3020, .inl (fun _ => 0))), (q_171, .inr (2, [.int 0, .int 0, .int 0, .ref q3_173, .int 0, .ref q5_174, .int 0, .int 0, .int 0, .int 0, .ref q10_175, .ref q11_176, .ref q12_177, .ref q13_178, .ref q14_179, .ref q15_180, .int 0, .int 0, .int 0, .int 0, .int 0, .int 0]))] := hD
  obtain ⟨fa15, efa15⟩ : ∃ z : Nat → Option Nat, z = va_up fa14 (15 : Int32).toNatClampNeg (some q_171) := ⟨_, rfl⟩
  rw [← efa15] at hP hD
  have hP := hP.sub (ws' := [(d, .inr (1, [.ref h, .ref y, .ref q_1, .int 0, .int 0, .ref q_3, .null, .int 0])), (q_1, .inl (k_2, 40, .inr (.inr (.inr (.inr fa15))))), (q_3, .inl (k_4, 3020, .inl (fun _ => 0)))]) [0, 1, 2] rfl
  have hD := hD.sub (ws' := [(d, .inr (1, [.ref h, .ref y, .ref q_1, .int 0, .int 0, .ref q_3, .null, .int 0])), (q_1, .inl (k_2, 40, .inr (.inr (.inr (.inr fa15))))), (q_3, .inl (k_4, 3020, .inl (fun _ => 0)))]) [0, 1, 2] (by decide) rfl
  have hK := hK.sub (tys' := [(k_2, .object RX2), (k_4, .int)]) [0, 1] rfl
  refine lv_iinc (v := 16) (lv' := [(3, .int 16), (0, .ref d), (1, .ref h), (2, .ref y)]) hx hb dX1_init_53 hl (k := 0) rfl (by decide) (by decide) rfl (fun ls hl => ?_)
  refine lv_goto (tgt := 34) hx hb dX1_init_56 (by decide) ?_
  refine lv_iload_n hx hb dX1_init_34 rfl (lv_at hl 0 rfl) ?_
  refine lv_bipush (v := 40) hx hb dX1_init_35 (by decide) ?_
  refine lv_icmp_ge (tgt := 59) hx hb dX1_init_37 (by decide) (fun c_181 => absurd c_181 (by decide)) (fun _ => ?_)
  refine lv_aload_n hx hb dX1_init_40 rfl (lv_at hl 1 rfl) ?_
  refine va_get (D := (dC, dI)) (ci := 1) (v := .ref q_1) (C := RX1) (T := TX1) (N := 8) hx hb hts in_c_decl_X1 hown hK hP 0 rfl rfl 2 (by decide) (hts (.fieldLink RX1 11 "OwnedPlaces$Declarations" "functions" "[LOwnedPlaces$Function;") (wm_c_decl 5 rfl)) (fun _ h9 => h9) rfl dX1_init_41 ?_
  refine lv_iload_n hx hb dX1_init_44 rfl (lv_at hl 0 rfl) ?_
  refine va_new (ci := 2) (fs := [.int 0, .int 0, .int 0, .null, .int 0, .null, .int 0, .int 0, .int 0, .int 0, .null, .null, .null, .null, .null, .null, .int 0, .int 0, .int 0, .int 0, .int 0, .int 0]) (C := RX2) (T := TX2) (N := 22) hx hb hts in_c_decl_X2 tyX2 tyX2_ok hown (hts (.classLink RX1 9 RX2) (wm_c_decl 4 rfl)) (hts (.instantiable RX2 22) (wm_c_decl 10 rfl)) (hts (.initialized RX2) (wm_c_decl 11 rfl)) hK hP hD hS hA rfl dv_X2 (show 146 + 1 ≤ 362 by omega) (show 7572 + 22 ≤ 14340 by omega) dX1_init_45 (fun q_182 H hP hD hS => ?_)
  have hP : va_P (dC, dI) vwCl [(d, .inr (1, [.ref h, .ref y, .ref q_1, .int 0, .int 0, .ref q_3, .null, .int 0])), (q_1, .inl (k_2, 40, .inr (.inr (.inr (.inr fa15))))), (q_3, .inl (k_4, 3020, .inl (fun _ => 0))), (q_182, .inr (2, [.int 0, .int 0, .int 0, .null, .int 0, .null, .int 0, .int 0, .int 0, .int 0, .null, .null, .null, .null, .null, .null, .int 0, .int 0, .int 0, .int 0, .int 0, .int 0]))] H := hP
  have hD : va_D A [(d, .inr (1, [.ref h, .ref y, .ref q_1, .int 0, .int 0, .ref q_3, .null, .int 0])), (q_1, .inl (k_2, 40, .inr (.inr (.inr (.inr fa15))))), (q_3, .inl (k_4, 3020, .inl (fun _ => 0))), (q_182, .inr (2, [.int 0, .int 0, .int 0, .null, .int 0, .null, .int 0, .int 0, .int 0, .int 0, .null, .null, .null, .null, .null, .null, .int 0, .int 0, .int 0, .int 0, .int 0, .int 0]))] := hD
  refine W.widen (k := 147) (n := 7594) (by omega) (by omega) ?_
  refine lv_dup hx hb dX1_init_48 rfl ?_
  have hPc := hP.sub (ws' := [(q_182, .inr (2, [.int 0, .int 0, .int 0, .null, .int 0, .null, .int 0, .int 0, .int 0, .int 0, .null, .null, .null, .null, .null, .null, .int 0, .int 0, .int 0, .int 0, .int 0, .int 0]))]) [3] rfl
  have hDc := hD.sub (ws' := [(q_182, .inr (2, [.int 0, .int 0, .int 0, .null, .int 0, .null, .int 0, .int 0, .int 0, .int 0, .null, .null, .null, .null, .null, .null, .int 0, .int 0, .int 0, .int 0, .int 0, .int 0]))]) [3] (by decide) rfl
  have hKc := hK.sub (tys' := []) [] rfl
  have hFc := va_free (wc := [(q_182, .inr (2, [.int 0, .int 0, .int 0, .null, .int 0, .null, .int 0, .int 0, .int 0, .int 0, .null, .null, .null, .null, .null, .null, .int 0, .int 0, .int 0, .int 0, .int 0, .int 0]))]) hD hS hA [3] rfl
  refine va_callv (va_runIN (As := []) (rest := [.ref q_182, .int 16, .ref q_1]) ⟨hx, hb, hml, hown, hts⟩ (c_function l dC dI q_182 H.size) ⟨va_cnB 0 hts g_c_decl_c_function_49 rfl rfl rfl hpre0 (hts (.initialized RX2) (wm_c_decl 11 rfl)) (by decide +kernel) ⟨Nat.le_of_ble_eq_true rfl, Nat.le_of_ble_eq_true rfl⟩, rfl, (hts (.instanceMethod yX2_init) (wm_c_decl 23 rfl))⟩ ⟨fun a U g mk q => by obtain ⟨q0, q1, qP, qK, qD⟩ := q; exact ⟨q0, q1, qP, va_K.moved (u := U) (U := U.calling g mk a) (Vm.Alike.refl U.vm) qK, qD⟩, fun U hU hW => ⟨rfl, by rw [hU], by rw [hU]; exact hPc, va_K.moved hW.alike hKc, hDc.weaken (fun _ _ _ _ => trivial)⟩⟩ rfl rfl hl.1 rfl (lv_room (Nat.le_of_ble_eq_true rfl)) dX1_init_49 ⟨(show 147 + 8 ≤ 362 by omega), (show 7594 + 260 ≤ 14340 by omega)⟩) hS (fun q _ h => hFc q h) hFc (fun u tS H1 locs ht hvm hw hB hz1 hk1 hS => ?_)
  obtain ⟨q3_184, q5_185, q10_186, q11_187, q12_188, q13_189, q14_190, q15_191, hP1, hK1, hD1⟩ := hB
  rw [ht] at hP1
  have hK1 := va_K.moved hvm.symm hK1
  obtain ⟨hP, hD⟩ := va_join (wr := [(d, .inr (1, [.ref h, .ref y, .ref q_1, .int 0, .int 0, .ref q_3, .null, .int 0])), (q_1, .inl (k_2, 40, .inr (.inr (.inr (.inr fa15))))), (q_3, .inl (k_4, 3020, .inl (fun _ => 0)))]) (w1 := [(q_182, .inr (2, [.int 0, .int 0, .int 0, .ref q3_184, .int 0, .ref q5_185, .int 0, .int 0, .int 0, .int 0, .ref q10_186, .ref q11_187, .ref q12_188, .ref q13_189, .ref q14_190, .ref q15_191, .int 0, .int 0, .int 0, .int 0, .int 0, .int 0]))]) hP hD [3] [0, 1, 2] rfl rfl (by decide) (by decide) hk1 hFc hP1 hD1
  generalize H1 = H at hP hS ⊢
  have hP : va_P (dC, dI) vwCl [(d, .inr (1, [.ref h, .ref y, .ref q_1, .int 0, .int 0, .ref q_3, .null, .int 0])), (q_1, .inl (k_2, 40, .inr (.inr (.inr (.inr fa15))))), (q_3, .inl (k_4, 3020, .inl (fun _ => 0))), (q_182, .inr (2, [.int 0, .int 0, .int 0, .ref q3_184, .int 0, .ref q5_185, .int 0, .int 0, .int 0, .int 0, .ref q10_186, .ref q11_187, .ref q12_188, .ref q13_189, .ref q14_190, .ref q15_191, .int 0, .int 0, .int 0, .int 0, .int 0, .int 0]))] H := hP
  have hD : va_D A [(d, .inr (1, [.ref h, .ref y, .ref q_1, .int 0, .int 0, .ref q_3, .null, .int 0])), (q_1, .inl (k_2, 40, .inr (.inr (.inr (.inr fa15))))), (q_3, .inl (k_4, 3020, .inl (fun _ => 0))), (q_182, .inr (2, [.int 0, .int 0, .int 0, .ref q3_184, .int 0, .ref q5_185, .int 0, .int 0, .int 0, .int 0, .ref q10_186, .ref q11_187, .ref q12_188, .ref q13_189, .ref q14_190, .ref q15_191, .int 0, .int 0, .int 0, .int 0, .int 0, .int 0]))] := hD
  have hK : va_K (dC, dI) vwCl [(k_2, .object RX2), (k_4, .int)] s := hK
  refine W.widen (k := 155) (n := 7854) (by omega) (by omega) ?_
  refine va_astq hx hb hK hP hD hS 1 0 3 2 rfl rfl rfl rfl (by unfold vp_in; decide) dX1_init_52 (fun H locs hP hD hS => ?_)
  have hP : va_P (dC, dI) vwCl [(d, .inr (1, [.ref h, .ref y, .ref q_1, .int 0, .int 0, .ref q_3, .null, .int 0])), (q_1, .inl (k_2, 40, .inr (.inr (.inr (.inr (va_up fa15 (16 : Int32).toNatClampNeg (some q_182))))))), (q_3, .inl (k_4, 3020, .inl (fun _ => 0))), (q_182, .inr (2, [.int 0, .int 0, .int 0, .ref q3_184, .int 0, .ref q5_185, .int 0, .int 0, .int 0, .int 0, .ref q10_186, .ref q11_187, .ref q12_188, .ref q13_189, .ref q14_190, .ref q15_191, .int 0, .int 0, .int 0, .int 0, .int 0, .int 0]))] H := hP
  have hD : va_D A [(d, .inr (1, [.ref h, .ref y, .ref q_1, .int 0, .int 0, .ref q_3, .null, .int 0])), (q_1, .inl (k_2, 40, .inr (.inr (.inr (.inr (va_up fa15 (16 : Int32).toNatClampNeg (some q_182))))))), (q_3, .inl (k_4, 3020, .inl (fun _ => 0))), (q_182, .inr (2, [.int 0, .int 0, .int 0, .ref q3_184, .int 0, .ref q5_185, .int 0, .int 0, .int 0, .int 0, .ref q10_186, .ref q11_187, .ref q12_188, .ref q13_189, .ref q14_190, .ref q15_191, .int 0, .int 0, .int 0, .int 0, .int 0, .int 0]))] := hD
  obtain ⟨fa16, efa16⟩ : ∃ z : Nat → Option Nat, z = va_up fa15 (16 : Int32).toNatClampNeg (some q_182) := ⟨_, rfl⟩
  rw [← efa16] at hP hD
  have hP := hP.sub (ws' := [(d, .inr (1, [.ref h, .ref y, .ref q_1, .int 0, .int 0, .ref q_3, .null, .int 0])), (q_1, .inl (k_2, 40, .inr (.inr (.inr (.inr fa16))))), (q_3, .inl (k_4, 3020, .inl (fun _ => 0)))]) [0, 1, 2] rfl
  have hD := hD.sub (ws' := [(d, .inr (1, [.ref h, .ref y, .ref q_1, .int 0, .int 0, .ref q_3, .null, .int 0])), (q_1, .inl (k_2, 40, .inr (.inr (.inr (.inr fa16))))), (q_3, .inl (k_4, 3020, .inl (fun _ => 0)))]) [0, 1, 2] (by decide) rfl
  have hK := hK.sub (tys' := [(k_2, .object RX2), (k_4, .int)]) [0, 1] rfl
  refine lv_iinc (v := 17) (lv' := [(3, .int 17), (0, .ref d), (1, .ref h), (2, .ref y)]) hx hb dX1_init_53 hl (k := 0) rfl (by decide) (by decide) rfl (fun ls hl => ?_)
  refine lv_goto (tgt := 34) hx hb dX1_init_56 (by decide) ?_
  refine lv_iload_n hx hb dX1_init_34 rfl (lv_at hl 0 rfl) ?_
  refine lv_bipush (v := 40) hx hb dX1_init_35 (by decide) ?_
  refine lv_icmp_ge (tgt := 59) hx hb dX1_init_37 (by decide) (fun c_192 => absurd c_192 (by decide)) (fun _ => ?_)
  refine lv_aload_n hx hb dX1_init_40 rfl (lv_at hl 1 rfl) ?_
  refine va_get (D := (dC, dI)) (ci := 1) (v := .ref q_1) (C := RX1) (T := TX1) (N := 8) hx hb hts in_c_decl_X1 hown hK hP 0 rfl rfl 2 (by decide) (hts (.fieldLink RX1 11 "OwnedPlaces$Declarations" "functions" "[LOwnedPlaces$Function;") (wm_c_decl 5 rfl)) (fun _ h9 => h9) rfl dX1_init_41 ?_
  refine lv_iload_n hx hb dX1_init_44 rfl (lv_at hl 0 rfl) ?_
  refine va_new (ci := 2) (fs := [.int 0, .int 0, .int 0, .null, .int 0, .null, .int 0, .int 0, .int 0, .int 0, .null, .null, .null, .null, .null, .null, .int 0, .int 0, .int 0, .int 0, .int 0, .int 0]) (C := RX2) (T := TX2) (N := 22) hx hb hts in_c_decl_X2 tyX2 tyX2_ok hown (hts (.classLink RX1 9 RX2) (wm_c_decl 4 rfl)) (hts (.instantiable RX2 22) (wm_c_decl 10 rfl)) (hts (.initialized RX2) (wm_c_decl 11 rfl)) hK hP hD hS hA rfl dv_X2 (show 155 + 1 ≤ 362 by omega) (show 7854 + 22 ≤ 14340 by omega) dX1_init_45 (fun q_193 H hP hD hS => ?_)
  have hP : va_P (dC, dI) vwCl [(d, .inr (1, [.ref h, .ref y, .ref q_1, .int 0, .int 0, .ref q_3, .null, .int 0])), (q_1, .inl (k_2, 40, .inr (.inr (.inr (.inr fa16))))), (q_3, .inl (k_4, 3020, .inl (fun _ => 0))), (q_193, .inr (2, [.int 0, .int 0, .int 0, .null, .int 0, .null, .int 0, .int 0, .int 0, .int 0, .null, .null, .null, .null, .null, .null, .int 0, .int 0, .int 0, .int 0, .int 0, .int 0]))] H := hP
  have hD : va_D A [(d, .inr (1, [.ref h, .ref y, .ref q_1, .int 0, .int 0, .ref q_3, .null, .int 0])), (q_1, .inl (k_2, 40, .inr (.inr (.inr (.inr fa16))))), (q_3, .inl (k_4, 3020, .inl (fun _ => 0))), (q_193, .inr (2, [.int 0, .int 0, .int 0, .null, .int 0, .null, .int 0, .int 0, .int 0, .int 0, .null, .null, .null, .null, .null, .null, .int 0, .int 0, .int 0, .int 0, .int 0, .int 0]))] := hD
  refine W.widen (k := 156) (n := 7876) (by omega) (by omega) ?_
  refine lv_dup hx hb dX1_init_48 rfl ?_
  have hPc := hP.sub (ws' := [(q_193, .inr (2, [.int 0, .int 0, .int 0, .null, .int 0, .null, .int 0, .int 0, .int 0, .int 0, .null, .null, .null, .null, .null, .null, .int 0, .int 0, .int 0, .int 0, .int 0, .int 0]))]) [3] rfl
  have hDc := hD.sub (ws' := [(q_193, .inr (2, [.int 0, .int 0, .int 0, .null, .int 0, .null, .int 0, .int 0, .int 0, .int 0, .null, .null, .null, .null, .null, .null, .int 0, .int 0, .int 0, .int 0, .int 0, .int 0]))]) [3] (by decide) rfl
  have hKc := hK.sub (tys' := []) [] rfl
  have hFc := va_free (wc := [(q_193, .inr (2, [.int 0, .int 0, .int 0, .null, .int 0, .null, .int 0, .int 0, .int 0, .int 0, .null, .null, .null, .null, .null, .null, .int 0, .int 0, .int 0, .int 0, .int 0, .int 0]))]) hD hS hA [3] rfl
  refine va_callv (va_runIN (As := []) (rest := [.ref q_193, .int 17, .ref q_1]) ⟨hx, hb, hml, hown, hts⟩ (c_function l dC dI q_193 H.size) ⟨va_cnB 0 hts g_c_decl_c_function_49 rfl rfl rfl hpre0 (hts (.initialized RX2) (wm_c_decl 11 rfl)) (by decide +kernel) ⟨Nat.le_of_ble_eq_true rfl, Nat.le_of_ble_eq_true rfl⟩, rfl, (hts (.instanceMethod yX2_init) (wm_c_decl 23 rfl))⟩ ⟨fun a U g mk q => by obtain ⟨q0, q1, qP, qK, qD⟩ := q; exact ⟨q0, q1, qP, va_K.moved (u := U) (U := U.calling g mk a) (Vm.Alike.refl U.vm) qK, qD⟩, fun U hU hW => ⟨rfl, by rw [hU], by rw [hU]; exact hPc, va_K.moved hW.alike hKc, hDc.weaken (fun _ _ _ _ => trivial)⟩⟩ rfl rfl hl.1 rfl (lv_room (Nat.le_of_ble_eq_true rfl)) dX1_init_49 ⟨(show 156 + 8 ≤ 362 by omega), (show 7876 + 260 ≤ 14340 by omega)⟩) hS (fun q _ h => hFc q h) hFc (fun u tS H1 locs ht hvm hw hB hz1 hk1 hS => ?_)
  obtain ⟨q3_195, q5_196, q10_197, q11_198, q12_199, q13_200, q14_201, q15_202, hP1, hK1, hD1⟩ := hB
  rw [ht] at hP1
  have hK1 := va_K.moved hvm.symm hK1
  obtain ⟨hP, hD⟩ := va_join (wr := [(d, .inr (1, [.ref h, .ref y, .ref q_1, .int 0, .int 0, .ref q_3, .null, .int 0])), (q_1, .inl (k_2, 40, .inr (.inr (.inr (.inr fa16))))), (q_3, .inl (k_4, 3020, .inl (fun _ => 0)))]) (w1 := [(q_193, .inr (2, [.int 0, .int 0, .int 0, .ref q3_195, .int 0, .ref q5_196, .int 0, .int 0, .int 0, .int 0, .ref q10_197, .ref q11_198, .ref q12_199, .ref q13_200, .ref q14_201, .ref q15_202, .int 0, .int 0, .int 0, .int 0, .int 0, .int 0]))]) hP hD [3] [0, 1, 2] rfl rfl (by decide) (by decide) hk1 hFc hP1 hD1
  generalize H1 = H at hP hS ⊢
  have hP : va_P (dC, dI) vwCl [(d, .inr (1, [.ref h, .ref y, .ref q_1, .int 0, .int 0, .ref q_3, .null, .int 0])), (q_1, .inl (k_2, 40, .inr (.inr (.inr (.inr fa16))))), (q_3, .inl (k_4, 3020, .inl (fun _ => 0))), (q_193, .inr (2, [.int 0, .int 0, .int 0, .ref q3_195, .int 0, .ref q5_196, .int 0, .int 0, .int 0, .int 0, .ref q10_197, .ref q11_198, .ref q12_199, .ref q13_200, .ref q14_201, .ref q15_202, .int 0, .int 0, .int 0, .int 0, .int 0, .int 0]))] H := hP
  have hD : va_D A [(d, .inr (1, [.ref h, .ref y, .ref q_1, .int 0, .int 0, .ref q_3, .null, .int 0])), (q_1, .inl (k_2, 40, .inr (.inr (.inr (.inr fa16))))), (q_3, .inl (k_4, 3020, .inl (fun _ => 0))), (q_193, .inr (2, [.int 0, .int 0, .int 0, .ref q3_195, .int 0, .ref q5_196, .int 0, .int 0, .int 0, .int 0, .ref q10_197, .ref q11_198, .ref q12_199, .ref q13_200, .ref q14_201, .ref q15_202, .int 0, .int 0, .int 0, .int 0, .int 0, .int 0]))] := hD
  have hK : va_K (dC, dI) vwCl [(k_2, .object RX2), (k_4, .int)] s := hK
  refine W.widen (k := 164) (n := 8136) (by omega) (by omega) ?_
  refine va_astq hx hb hK hP hD hS 1 0 3 2 rfl rfl rfl rfl (by unfold vp_in; decide) dX1_init_52 (fun H locs hP hD hS => ?_)
  have hP : va_P (dC, dI) vwCl [(d, .inr (1, [.ref h, .ref y, .ref q_1, .int 0, .int 0, .ref q_3, .null, .int 0])), (q_1, .inl (k_2, 40, .inr (.inr (.inr (.inr (va_up fa16 (17 : Int32).toNatClampNeg (some q_193))))))), (q_3, .inl (k_4, 3020, .inl (fun _ => 0))), (q_193, .inr (2, [.int 0, .int 0, .int 0, .ref q3_195, .int 0, .ref q5_196, .int 0, .int 0, .int 0, .int 0, .ref q10_197, .ref q11_198, .ref q12_199, .ref q13_200, .ref q14_201, .ref q15_202, .int 0, .int 0, .int 0, .int 0, .int 0, .int 0]))] H := hP
  have hD : va_D A [(d, .inr (1, [.ref h, .ref y, .ref q_1, .int 0, .int 0, .ref q_3, .null, .int 0])), (q_1, .inl (k_2, 40, .inr (.inr (.inr (.inr (va_up fa16 (17 : Int32).toNatClampNeg (some q_193))))))), (q_3, .inl (k_4, 3020, .inl (fun _ => 0))), (q_193, .inr (2, [.int 0, .int 0, .int 0, .ref q3_195, .int 0, .ref q5_196, .int 0, .int 0, .int 0, .int 0, .ref q10_197, .ref q11_198, .ref q12_199, .ref q13_200, .ref q14_201, .ref q15_202, .int 0, .int 0, .int 0, .int 0, .int 0, .int 0]))] := hD
  obtain ⟨fa17, efa17⟩ : ∃ z : Nat → Option Nat, z = va_up fa16 (17 : Int32).toNatClampNeg (some q_193) := ⟨_, rfl⟩
  rw [← efa17] at hP hD
  have hP := hP.sub (ws' := [(d, .inr (1, [.ref h, .ref y, .ref q_1, .int 0, .int 0, .ref q_3, .null, .int 0])), (q_1, .inl (k_2, 40, .inr (.inr (.inr (.inr fa17))))), (q_3, .inl (k_4, 3020, .inl (fun _ => 0)))]) [0, 1, 2] rfl
  have hD := hD.sub (ws' := [(d, .inr (1, [.ref h, .ref y, .ref q_1, .int 0, .int 0, .ref q_3, .null, .int 0])), (q_1, .inl (k_2, 40, .inr (.inr (.inr (.inr fa17))))), (q_3, .inl (k_4, 3020, .inl (fun _ => 0)))]) [0, 1, 2] (by decide) rfl
  have hK := hK.sub (tys' := [(k_2, .object RX2), (k_4, .int)]) [0, 1] rfl
  refine lv_iinc (v := 18) (lv' := [(3, .int 18), (0, .ref d), (1, .ref h), (2, .ref y)]) hx hb dX1_init_53 hl (k := 0) rfl (by decide) (by decide) rfl (fun ls hl => ?_)
  refine lv_goto (tgt := 34) hx hb dX1_init_56 (by decide) ?_
  refine lv_iload_n hx hb dX1_init_34 rfl (lv_at hl 0 rfl) ?_
  refine lv_bipush (v := 40) hx hb dX1_init_35 (by decide) ?_
  refine lv_icmp_ge (tgt := 59) hx hb dX1_init_37 (by decide) (fun c_203 => absurd c_203 (by decide)) (fun _ => ?_)
  refine lv_aload_n hx hb dX1_init_40 rfl (lv_at hl 1 rfl) ?_
  refine va_get (D := (dC, dI)) (ci := 1) (v := .ref q_1) (C := RX1) (T := TX1) (N := 8) hx hb hts in_c_decl_X1 hown hK hP 0 rfl rfl 2 (by decide) (hts (.fieldLink RX1 11 "OwnedPlaces$Declarations" "functions" "[LOwnedPlaces$Function;") (wm_c_decl 5 rfl)) (fun _ h9 => h9) rfl dX1_init_41 ?_
  refine lv_iload_n hx hb dX1_init_44 rfl (lv_at hl 0 rfl) ?_
  refine va_new (ci := 2) (fs := [.int 0, .int 0, .int 0, .null, .int 0, .null, .int 0, .int 0, .int 0, .int 0, .null, .null, .null, .null, .null, .null, .int 0, .int 0, .int 0, .int 0, .int 0, .int 0]) (C := RX2) (T := TX2) (N := 22) hx hb hts in_c_decl_X2 tyX2 tyX2_ok hown (hts (.classLink RX1 9 RX2) (wm_c_decl 4 rfl)) (hts (.instantiable RX2 22) (wm_c_decl 10 rfl)) (hts (.initialized RX2) (wm_c_decl 11 rfl)) hK hP hD hS hA rfl dv_X2 (show 164 + 1 ≤ 362 by omega) (show 8136 + 22 ≤ 14340 by omega) dX1_init_45 (fun q_204 H hP hD hS => ?_)
  have hP : va_P (dC, dI) vwCl [(d, .inr (1, [.ref h, .ref y, .ref q_1, .int 0, .int 0, .ref q_3, .null, .int 0])), (q_1, .inl (k_2, 40, .inr (.inr (.inr (.inr fa17))))), (q_3, .inl (k_4, 3020, .inl (fun _ => 0))), (q_204, .inr (2, [.int 0, .int 0, .int 0, .null, .int 0, .null, .int 0, .int 0, .int 0, .int 0, .null, .null, .null, .null, .null, .null, .int 0, .int 0, .int 0, .int 0, .int 0, .int 0]))] H := hP
  have hD : va_D A [(d, .inr (1, [.ref h, .ref y, .ref q_1, .int 0, .int 0, .ref q_3, .null, .int 0])), (q_1, .inl (k_2, 40, .inr (.inr (.inr (.inr fa17))))), (q_3, .inl (k_4, 3020, .inl (fun _ => 0))), (q_204, .inr (2, [.int 0, .int 0, .int 0, .null, .int 0, .null, .int 0, .int 0, .int 0, .int 0, .null, .null, .null, .null, .null, .null, .int 0, .int 0, .int 0, .int 0, .int 0, .int 0]))] := hD
  refine W.widen (k := 165) (n := 8158) (by omega) (by omega) ?_
  refine lv_dup hx hb dX1_init_48 rfl ?_
  have hPc := hP.sub (ws' := [(q_204, .inr (2, [.int 0, .int 0, .int 0, .null, .int 0, .null, .int 0, .int 0, .int 0, .int 0, .null, .null, .null, .null, .null, .null, .int 0, .int 0, .int 0, .int 0, .int 0, .int 0]))]) [3] rfl
  have hDc := hD.sub (ws' := [(q_204, .inr (2, [.int 0, .int 0, .int 0, .null, .int 0, .null, .int 0, .int 0, .int 0, .int 0, .null, .null, .null, .null, .null, .null, .int 0, .int 0, .int 0, .int 0, .int 0, .int 0]))]) [3] (by decide) rfl
  have hKc := hK.sub (tys' := []) [] rfl
  have hFc := va_free (wc := [(q_204, .inr (2, [.int 0, .int 0, .int 0, .null, .int 0, .null, .int 0, .int 0, .int 0, .int 0, .null, .null, .null, .null, .null, .null, .int 0, .int 0, .int 0, .int 0, .int 0, .int 0]))]) hD hS hA [3] rfl
  refine va_callv (va_runIN (As := []) (rest := [.ref q_204, .int 18, .ref q_1]) ⟨hx, hb, hml, hown, hts⟩ (c_function l dC dI q_204 H.size) ⟨va_cnB 0 hts g_c_decl_c_function_49 rfl rfl rfl hpre0 (hts (.initialized RX2) (wm_c_decl 11 rfl)) (by decide +kernel) ⟨Nat.le_of_ble_eq_true rfl, Nat.le_of_ble_eq_true rfl⟩, rfl, (hts (.instanceMethod yX2_init) (wm_c_decl 23 rfl))⟩ ⟨fun a U g mk q => by obtain ⟨q0, q1, qP, qK, qD⟩ := q; exact ⟨q0, q1, qP, va_K.moved (u := U) (U := U.calling g mk a) (Vm.Alike.refl U.vm) qK, qD⟩, fun U hU hW => ⟨rfl, by rw [hU], by rw [hU]; exact hPc, va_K.moved hW.alike hKc, hDc.weaken (fun _ _ _ _ => trivial)⟩⟩ rfl rfl hl.1 rfl (lv_room (Nat.le_of_ble_eq_true rfl)) dX1_init_49 ⟨(show 165 + 8 ≤ 362 by omega), (show 8158 + 260 ≤ 14340 by omega)⟩) hS (fun q _ h => hFc q h) hFc (fun u tS H1 locs ht hvm hw hB hz1 hk1 hS => ?_)
  obtain ⟨q3_206, q5_207, q10_208, q11_209, q12_210, q13_211, q14_212, q15_213, hP1, hK1, hD1⟩ := hB
  rw [ht] at hP1
  have hK1 := va_K.moved hvm.symm hK1
  obtain ⟨hP, hD⟩ := va_join (wr := [(d, .inr (1, [.ref h, .ref y, .ref q_1, .int 0, .int 0, .ref q_3, .null, .int 0])), (q_1, .inl (k_2, 40, .inr (.inr (.inr (.inr fa17))))), (q_3, .inl (k_4, 3020, .inl (fun _ => 0)))]) (w1 := [(q_204, .inr (2, [.int 0, .int 0, .int 0, .ref q3_206, .int 0, .ref q5_207, .int 0, .int 0, .int 0, .int 0, .ref q10_208, .ref q11_209, .ref q12_210, .ref q13_211, .ref q14_212, .ref q15_213, .int 0, .int 0, .int 0, .int 0, .int 0, .int 0]))]) hP hD [3] [0, 1, 2] rfl rfl (by decide) (by decide) hk1 hFc hP1 hD1
  generalize H1 = H at hP hS ⊢
  have hP : va_P (dC, dI) vwCl [(d, .inr (1, [.ref h, .ref y, .ref q_1, .int 0, .int 0, .ref q_3, .null, .int 0])), (q_1, .inl (k_2, 40, .inr (.inr (.inr (.inr fa17))))), (q_3, .inl (k_4, 3020, .inl (fun _ => 0))), (q_204, .inr (2, [.int 0, .int 0, .int 0, .ref q3_206, .int 0, .ref q5_207, .int 0, .int 0, .int 0, .int 0, .ref q10_208, .ref q11_209, .ref q12_210, .ref q13_211, .ref q14_212, .ref q15_213, .int 0, .int 0, .int 0, .int 0, .int 0, .int 0]))] H := hP
  have hD : va_D A [(d, .inr (1, [.ref h, .ref y, .ref q_1, .int 0, .int 0, .ref q_3, .null, .int 0])), (q_1, .inl (k_2, 40, .inr (.inr (.inr (.inr fa17))))), (q_3, .inl (k_4, 3020, .inl (fun _ => 0))), (q_204, .inr (2, [.int 0, .int 0, .int 0, .ref q3_206, .int 0, .ref q5_207, .int 0, .int 0, .int 0, .int 0, .ref q10_208, .ref q11_209, .ref q12_210, .ref q13_211, .ref q14_212, .ref q15_213, .int 0, .int 0, .int 0, .int 0, .int 0, .int 0]))] := hD
  have hK : va_K (dC, dI) vwCl [(k_2, .object RX2), (k_4, .int)] s := hK
  refine W.widen (k := 173) (n := 8418) (by omega) (by omega) ?_
  refine va_astq hx hb hK hP hD hS 1 0 3 2 rfl rfl rfl rfl (by unfold vp_in; decide) dX1_init_52 (fun H locs hP hD hS => ?_)
  have hP : va_P (dC, dI) vwCl [(d, .inr (1, [.ref h, .ref y, .ref q_1, .int 0, .int 0, .ref q_3, .null, .int 0])), (q_1, .inl (k_2, 40, .inr (.inr (.inr (.inr (va_up fa17 (18 : Int32).toNatClampNeg (some q_204))))))), (q_3, .inl (k_4, 3020, .inl (fun _ => 0))), (q_204, .inr (2, [.int 0, .int 0, .int 0, .ref q3_206, .int 0, .ref q5_207, .int 0, .int 0, .int 0, .int 0, .ref q10_208, .ref q11_209, .ref q12_210, .ref q13_211, .ref q14_212, .ref q15_213, .int 0, .int 0, .int 0, .int 0, .int 0, .int 0]))] H := hP
  have hD : va_D A [(d, .inr (1, [.ref h, .ref y, .ref q_1, .int 0, .int 0, .ref q_3, .null, .int 0])), (q_1, .inl (k_2, 40, .inr (.inr (.inr (.inr (va_up fa17 (18 : Int32).toNatClampNeg (some q_204))))))), (q_3, .inl (k_4, 3020, .inl (fun _ => 0))), (q_204, .inr (2, [.int 0, .int 0, .int 0, .ref q3_206, .int 0, .ref q5_207, .int 0, .int 0, .int 0, .int 0, .ref q10_208, .ref q11_209, .ref q12_210, .ref q13_211, .ref q14_212, .ref q15_213, .int 0, .int 0, .int 0, .int 0, .int 0, .int 0]))] := hD
  obtain ⟨fa18, efa18⟩ : ∃ z : Nat → Option Nat, z = va_up fa17 (18 : Int32).toNatClampNeg (some q_204) := ⟨_, rfl⟩
  rw [← efa18] at hP hD
  have hP := hP.sub (ws' := [(d, .inr (1, [.ref h, .ref y, .ref q_1, .int 0, .int 0, .ref q_3, .null, .int 0])), (q_1, .inl (k_2, 40, .inr (.inr (.inr (.inr fa18))))), (q_3, .inl (k_4, 3020, .inl (fun _ => 0)))]) [0, 1, 2] rfl
  have hD := hD.sub (ws' := [(d, .inr (1, [.ref h, .ref y, .ref q_1, .int 0, .int 0, .ref q_3, .null, .int 0])), (q_1, .inl (k_2, 40, .inr (.inr (.inr (.inr fa18))))), (q_3, .inl (k_4, 3020, .inl (fun _ => 0)))]) [0, 1, 2] (by decide) rfl
  have hK := hK.sub (tys' := [(k_2, .object RX2), (k_4, .int)]) [0, 1] rfl
  refine lv_iinc (v := 19) (lv' := [(3, .int 19), (0, .ref d), (1, .ref h), (2, .ref y)]) hx hb dX1_init_53 hl (k := 0) rfl (by decide) (by decide) rfl (fun ls hl => ?_)
  refine lv_goto (tgt := 34) hx hb dX1_init_56 (by decide) ?_
  refine lv_iload_n hx hb dX1_init_34 rfl (lv_at hl 0 rfl) ?_
  refine lv_bipush (v := 40) hx hb dX1_init_35 (by decide) ?_
  refine lv_icmp_ge (tgt := 59) hx hb dX1_init_37 (by decide) (fun c_214 => absurd c_214 (by decide)) (fun _ => ?_)
  refine lv_aload_n hx hb dX1_init_40 rfl (lv_at hl 1 rfl) ?_
  refine va_get (D := (dC, dI)) (ci := 1) (v := .ref q_1) (C := RX1) (T := TX1) (N := 8) hx hb hts in_c_decl_X1 hown hK hP 0 rfl rfl 2 (by decide) (hts (.fieldLink RX1 11 "OwnedPlaces$Declarations" "functions" "[LOwnedPlaces$Function;") (wm_c_decl 5 rfl)) (fun _ h9 => h9) rfl dX1_init_41 ?_
  refine lv_iload_n hx hb dX1_init_44 rfl (lv_at hl 0 rfl) ?_
  refine va_new (ci := 2) (fs := [.int 0, .int 0, .int 0, .null, .int 0, .null, .int 0, .int 0, .int 0, .int 0, .null, .null, .null, .null, .null, .null, .int 0, .int 0, .int 0, .int 0, .int 0, .int 0]) (C := RX2) (T := TX2) (N := 22) hx hb hts in_c_decl_X2 tyX2 tyX2_ok hown (hts (.classLink RX1 9 RX2) (wm_c_decl 4 rfl)) (hts (.instantiable RX2 22) (wm_c_decl 10 rfl)) (hts (.initialized RX2) (wm_c_decl 11 rfl)) hK hP hD hS hA rfl dv_X2 (show 173 + 1 ≤ 362 by omega) (show 8418 + 22 ≤ 14340 by omega) dX1_init_45 (fun q_215 H hP hD hS => ?_)
  have hP : va_P (dC, dI) vwCl [(d, .inr (1, [.ref h, .ref y, .ref q_1, .int 0, .int 0, .ref q_3, .null, .int 0])), (q_1, .inl (k_2, 40, .inr (.inr (.inr (.inr fa18))))), (q_3, .inl (k_4, 3020, .inl (fun _ => 0))), (q_215, .inr (2, [.int 0, .int 0, .int 0, .null, .int 0, .null, .int 0, .int 0, .int 0, .int 0, .null, .null, .null, .null, .null, .null, .int 0, .int 0, .int 0, .int 0, .int 0, .int 0]))] H := hP
  have hD : va_D A [(d, .inr (1, [.ref h, .ref y, .ref q_1, .int 0, .int 0, .ref q_3, .null, .int 0])), (q_1, .inl (k_2, 40, .inr (.inr (.inr (.inr fa18))))), (q_3, .inl (k_4, 3020, .inl (fun _ => 0))), (q_215, .inr (2, [.int 0, .int 0, .int 0, .null, .int 0, .null, .int 0, .int 0, .int 0, .int 0, .null, .null, .null, .null, .null, .null, .int 0, .int 0, .int 0, .int 0, .int 0, .int 0]))] := hD
  refine W.widen (k := 174) (n := 8440) (by omega) (by omega) ?_
  refine lv_dup hx hb dX1_init_48 rfl ?_
  have hPc := hP.sub (ws' := [(q_215, .inr (2, [.int 0, .int 0, .int 0, .null, .int 0, .null, .int 0, .int 0, .int 0, .int 0, .null, .null, .null, .null, .null, .null, .int 0, .int 0, .int 0, .int 0, .int 0, .int 0]))]) [3] rfl
  have hDc := hD.sub (ws' := [(q_215, .inr (2, [.int 0, .int 0, .int 0, .null, .int 0, .null, .int 0, .int 0, .int 0, .int 0, .null, .null, .null, .null, .null, .null, .int 0, .int 0, .int 0, .int 0, .int 0, .int 0]))]) [3] (by decide) rfl
  have hKc := hK.sub (tys' := []) [] rfl
  have hFc := va_free (wc := [(q_215, .inr (2, [.int 0, .int 0, .int 0, .null, .int 0, .null, .int 0, .int 0, .int 0, .int 0, .null, .null, .null, .null, .null, .null, .int 0, .int 0, .int 0, .int 0, .int 0, .int 0]))]) hD hS hA [3] rfl
  refine va_callv (va_runIN (As := []) (rest := [.ref q_215, .int 19, .ref q_1]) ⟨hx, hb, hml, hown, hts⟩ (c_function l dC dI q_215 H.size) ⟨va_cnB 0 hts g_c_decl_c_function_49 rfl rfl rfl hpre0 (hts (.initialized RX2) (wm_c_decl 11 rfl)) (by decide +kernel) ⟨Nat.le_of_ble_eq_true rfl, Nat.le_of_ble_eq_true rfl⟩, rfl, (hts (.instanceMethod yX2_init) (wm_c_decl 23 rfl))⟩ ⟨fun a U g mk q => by obtain ⟨q0, q1, qP, qK, qD⟩ := q; exact ⟨q0, q1, qP, va_K.moved (u := U) (U := U.calling g mk a) (Vm.Alike.refl U.vm) qK, qD⟩, fun U hU hW => ⟨rfl, by rw [hU], by rw [hU]; exact hPc, va_K.moved hW.alike hKc, hDc.weaken (fun _ _ _ _ => trivial)⟩⟩ rfl rfl hl.1 rfl (lv_room (Nat.le_of_ble_eq_true rfl)) dX1_init_49 ⟨(show 174 + 8 ≤ 362 by omega), (show 8440 + 260 ≤ 14340 by omega)⟩) hS (fun q _ h => hFc q h) hFc (fun u tS H1 locs ht hvm hw hB hz1 hk1 hS => ?_)
  obtain ⟨q3_217, q5_218, q10_219, q11_220, q12_221, q13_222, q14_223, q15_224, hP1, hK1, hD1⟩ := hB
  rw [ht] at hP1
  have hK1 := va_K.moved hvm.symm hK1
  obtain ⟨hP, hD⟩ := va_join (wr := [(d, .inr (1, [.ref h, .ref y, .ref q_1, .int 0, .int 0, .ref q_3, .null, .int 0])), (q_1, .inl (k_2, 40, .inr (.inr (.inr (.inr fa18))))), (q_3, .inl (k_4, 3020, .inl (fun _ => 0)))]) (w1 := [(q_215, .inr (2, [.int 0, .int 0, .int 0, .ref q3_217, .int 0, .ref q5_218, .int 0, .int 0, .int 0, .int 0, .ref q10_219, .ref q11_220, .ref q12_221, .ref q13_222, .ref q14_223, .ref q15_224, .int 0, .int 0, .int 0, .int 0, .int 0, .int 0]))]) hP hD [3] [0, 1, 2] rfl rfl (by decide) (by decide) hk1 hFc hP1 hD1
  generalize H1 = H at hP hS ⊢
  have hP : va_P (dC, dI) vwCl [(d, .inr (1, [.ref h, .ref y, .ref q_1, .int 0, .int 0, .ref q_3, .null, .int 0])), (q_1, .inl (k_2, 40, .inr (.inr (.inr (.inr fa18))))), (q_3, .inl (k_4, 3020, .inl (fun _ => 0))), (q_215, .inr (2, [.int 0, .int 0, .int 0, .ref q3_217, .int 0, .ref q5_218, .int 0, .int 0, .int 0, .int 0, .ref q10_219, .ref q11_220, .ref q12_221, .ref q13_222, .ref q14_223, .ref q15_224, .int 0, .int 0, .int 0, .int 0, .int 0, .int 0]))] H := hP
  have hD : va_D A [(d, .inr (1, [.ref h, .ref y, .ref q_1, .int 0, .int 0, .ref q_3, .null, .int 0])), (q_1, .inl (k_2, 40, .inr (.inr (.inr (.inr fa18))))), (q_3, .inl (k_4, 3020, .inl (fun _ => 0))), (q_215, .inr (2, [.int 0, .int 0, .int 0, .ref q3_217, .int 0, .ref q5_218, .int 0, .int 0, .int 0, .int 0, .ref q10_219, .ref q11_220, .ref q12_221, .ref q13_222, .ref q14_223, .ref q15_224, .int 0, .int 0, .int 0, .int 0, .int 0, .int 0]))] := hD
  have hK : va_K (dC, dI) vwCl [(k_2, .object RX2), (k_4, .int)] s := hK
  refine W.widen (k := 182) (n := 8700) (by omega) (by omega) ?_
  refine va_astq hx hb hK hP hD hS 1 0 3 2 rfl rfl rfl rfl (by unfold vp_in; decide) dX1_init_52 (fun H locs hP hD hS => ?_)
  have hP : va_P (dC, dI) vwCl [(d, .inr (1, [.ref h, .ref y, .ref q_1, .int 0, .int 0, .ref q_3, .null, .int 0])), (q_1, .inl (k_2, 40, .inr (.inr (.inr (.inr (va_up fa18 (19 : Int32).toNatClampNeg (some q_215))))))), (q_3, .inl (k_4, 3020, .inl (fun _ => 0))), (q_215, .inr (2, [.int 0, .int 0, .int 0, .ref q3_217, .int 0, .ref q5_218, .int 0, .int 0, .int 0, .int 0, .ref q10_219, .ref q11_220, .ref q12_221, .ref q13_222, .ref q14_223, .ref q15_224, .int 0, .int 0, .int 0, .int 0, .int 0, .int 0]))] H := hP
  have hD : va_D A [(d, .inr (1, [.ref h, .ref y, .ref q_1, .int 0, .int 0, .ref q_3, .null, .int 0])), (q_1, .inl (k_2, 40, .inr (.inr (.inr (.inr (va_up fa18 (19 : Int32).toNatClampNeg (some q_215))))))), (q_3, .inl (k_4, 3020, .inl (fun _ => 0))), (q_215, .inr (2, [.int 0, .int 0, .int 0, .ref q3_217, .int 0, .ref q5_218, .int 0, .int 0, .int 0, .int 0, .ref q10_219, .ref q11_220, .ref q12_221, .ref q13_222, .ref q14_223, .ref q15_224, .int 0, .int 0, .int 0, .int 0, .int 0, .int 0]))] := hD
  obtain ⟨fa19, efa19⟩ : ∃ z : Nat → Option Nat, z = va_up fa18 (19 : Int32).toNatClampNeg (some q_215) := ⟨_, rfl⟩
  rw [← efa19] at hP hD
  have hP := hP.sub (ws' := [(d, .inr (1, [.ref h, .ref y, .ref q_1, .int 0, .int 0, .ref q_3, .null, .int 0])), (q_1, .inl (k_2, 40, .inr (.inr (.inr (.inr fa19))))), (q_3, .inl (k_4, 3020, .inl (fun _ => 0)))]) [0, 1, 2] rfl
  have hD := hD.sub (ws' := [(d, .inr (1, [.ref h, .ref y, .ref q_1, .int 0, .int 0, .ref q_3, .null, .int 0])), (q_1, .inl (k_2, 40, .inr (.inr (.inr (.inr fa19))))), (q_3, .inl (k_4, 3020, .inl (fun _ => 0)))]) [0, 1, 2] (by decide) rfl
  have hK := hK.sub (tys' := [(k_2, .object RX2), (k_4, .int)]) [0, 1] rfl
  refine lv_iinc (v := 20) (lv' := [(3, .int 20), (0, .ref d), (1, .ref h), (2, .ref y)]) hx hb dX1_init_53 hl (k := 0) rfl (by decide) (by decide) rfl (fun ls hl => ?_)
  refine lv_goto (tgt := 34) hx hb dX1_init_56 (by decide) ?_
  refine lv_iload_n hx hb dX1_init_34 rfl (lv_at hl 0 rfl) ?_
  refine lv_bipush (v := 40) hx hb dX1_init_35 (by decide) ?_
  refine lv_icmp_ge (tgt := 59) hx hb dX1_init_37 (by decide) (fun c_225 => absurd c_225 (by decide)) (fun _ => ?_)
  refine lv_aload_n hx hb dX1_init_40 rfl (lv_at hl 1 rfl) ?_
  refine va_get (D := (dC, dI)) (ci := 1) (v := .ref q_1) (C := RX1) (T := TX1) (N := 8) hx hb hts in_c_decl_X1 hown hK hP 0 rfl rfl 2 (by decide) (hts (.fieldLink RX1 11 "OwnedPlaces$Declarations" "functions" "[LOwnedPlaces$Function;") (wm_c_decl 5 rfl)) (fun _ h9 => h9) rfl dX1_init_41 ?_
  refine lv_iload_n hx hb dX1_init_44 rfl (lv_at hl 0 rfl) ?_
  refine va_new (ci := 2) (fs := [.int 0, .int 0, .int 0, .null, .int 0, .null, .int 0, .int 0, .int 0, .int 0, .null, .null, .null, .null, .null, .null, .int 0, .int 0, .int 0, .int 0, .int 0, .int 0]) (C := RX2) (T := TX2) (N := 22) hx hb hts in_c_decl_X2 tyX2 tyX2_ok hown (hts (.classLink RX1 9 RX2) (wm_c_decl 4 rfl)) (hts (.instantiable RX2 22) (wm_c_decl 10 rfl)) (hts (.initialized RX2) (wm_c_decl 11 rfl)) hK hP hD hS hA rfl dv_X2 (show 182 + 1 ≤ 362 by omega) (show 8700 + 22 ≤ 14340 by omega) dX1_init_45 (fun q_226 H hP hD hS => ?_)
  have hP : va_P (dC, dI) vwCl [(d, .inr (1, [.ref h, .ref y, .ref q_1, .int 0, .int 0, .ref q_3, .null, .int 0])), (q_1, .inl (k_2, 40, .inr (.inr (.inr (.inr fa19))))), (q_3, .inl (k_4, 3020, .inl (fun _ => 0))), (q_226, .inr (2, [.int 0, .int 0, .int 0, .null, .int 0, .null, .int 0, .int 0, .int 0, .int 0, .null, .null, .null, .null, .null, .null, .int 0, .int 0, .int 0, .int 0, .int 0, .int 0]))] H := hP
  have hD : va_D A [(d, .inr (1, [.ref h, .ref y, .ref q_1, .int 0, .int 0, .ref q_3, .null, .int 0])), (q_1, .inl (k_2, 40, .inr (.inr (.inr (.inr fa19))))), (q_3, .inl (k_4, 3020, .inl (fun _ => 0))), (q_226, .inr (2, [.int 0, .int 0, .int 0, .null, .int 0, .null, .int 0, .int 0, .int 0, .int 0, .null, .null, .null, .null, .null, .null, .int 0, .int 0, .int 0, .int 0, .int 0, .int 0]))] := hD
  refine W.widen (k := 183) (n := 8722) (by omega) (by omega) ?_
  refine lv_dup hx hb dX1_init_48 rfl ?_
  have hPc := hP.sub (ws' := [(q_226, .inr (2, [.int 0, .int 0, .int 0, .null, .int 0, .null, .int 0, .int 0, .int 0, .int 0, .null, .null, .null, .null, .null, .null, .int 0, .int 0, .int 0, .int 0, .int 0, .int 0]))]) [3] rfl
  have hDc := hD.sub (ws' := [(q_226, .inr (2, [.int 0, .int 0, .int 0, .null, .int 0, .null, .int 0, .int 0, .int 0, .int 0, .null, .null, .null, .null, .null, .null, .int 0, .int 0, .int 0, .int 0, .int 0, .int 0]))]) [3] (by decide) rfl
  have hKc := hK.sub (tys' := []) [] rfl
  have hFc := va_free (wc := [(q_226, .inr (2, [.int 0, .int 0, .int 0, .null, .int 0, .null, .int 0, .int 0, .int 0, .int 0, .null, .null, .null, .null, .null, .null, .int 0, .int 0, .int 0, .int 0, .int 0, .int 0]))]) hD hS hA [3] rfl
  refine va_callv (va_runIN (As := []) (rest := [.ref q_226, .int 20, .ref q_1]) ⟨hx, hb, hml, hown, hts⟩ (c_function l dC dI q_226 H.size) ⟨va_cnB 0 hts g_c_decl_c_function_49 rfl rfl rfl hpre0 (hts (.initialized RX2) (wm_c_decl 11 rfl)) (by decide +kernel) ⟨Nat.le_of_ble_eq_true rfl, Nat.le_of_ble_eq_true rfl⟩, rfl, (hts (.instanceMethod yX2_init) (wm_c_decl 23 rfl))⟩ ⟨fun a U g mk q => by obtain ⟨q0, q1, qP, qK, qD⟩ := q; exact ⟨q0, q1, qP, va_K.moved (u := U) (U := U.calling g mk a) (Vm.Alike.refl U.vm) qK, qD⟩, fun U hU hW => ⟨rfl, by rw [hU], by rw [hU]; exact hPc, va_K.moved hW.alike hKc, hDc.weaken (fun _ _ _ _ => trivial)⟩⟩ rfl rfl hl.1 rfl (lv_room (Nat.le_of_ble_eq_true rfl)) dX1_init_49 ⟨(show 183 + 8 ≤ 362 by omega), (show 8722 + 260 ≤ 14340 by omega)⟩) hS (fun q _ h => hFc q h) hFc (fun u tS H1 locs ht hvm hw hB hz1 hk1 hS => ?_)
  obtain ⟨q3_228, q5_229, q10_230, q11_231, q12_232, q13_233, q14_234, q15_235, hP1, hK1, hD1⟩ := hB
  rw [ht] at hP1
  have hK1 := va_K.moved hvm.symm hK1
  obtain ⟨hP, hD⟩ := va_join (wr := [(d, .inr (1, [.ref h, .ref y, .ref q_1, .int 0, .int 0, .ref q_3, .null, .int 0])), (q_1, .inl (k_2, 40, .inr (.inr (.inr (.inr fa19))))), (q_3, .inl (k_4, 3020, .inl (fun _ => 0)))]) (w1 := [(q_226, .inr (2, [.int 0, .int 0, .int 0, .ref q3_228, .int 0, .ref q5_229, .int 0, .int 0, .int 0, .int 0, .ref q10_230, .ref q11_231, .ref q12_232, .ref q13_233, .ref q14_234, .ref q15_235, .int 0, .int 0, .int 0, .int 0, .int 0, .int 0]))]) hP hD [3] [0, 1, 2] rfl rfl (by decide) (by decide) hk1 hFc hP1 hD1
  generalize H1 = H at hP hS ⊢
  have hP : va_P (dC, dI) vwCl [(d, .inr (1, [.ref h, .ref y, .ref q_1, .int 0, .int 0, .ref q_3, .null, .int 0])), (q_1, .inl (k_2, 40, .inr (.inr (.inr (.inr fa19))))), (q_3, .inl (k_4, 3020, .inl (fun _ => 0))), (q_226, .inr (2, [.int 0, .int 0, .int 0, .ref q3_228, .int 0, .ref q5_229, .int 0, .int 0, .int 0, .int 0, .ref q10_230, .ref q11_231, .ref q12_232, .ref q13_233, .ref q14_234, .ref q15_235, .int 0, .int 0, .int 0, .int 0, .int 0, .int 0]))] H := hP
  have hD : va_D A [(d, .inr (1, [.ref h, .ref y, .ref q_1, .int 0, .int 0, .ref q_3, .null, .int 0])), (q_1, .inl (k_2, 40, .inr (.inr (.inr (.inr fa19))))), (q_3, .inl (k_4, 3020, .inl (fun _ => 0))), (q_226, .inr (2, [.int 0, .int 0, .int 0, .ref q3_228, .int 0, .ref q5_229, .int 0, .int 0, .int 0, .int 0, .ref q10_230, .ref q11_231, .ref q12_232, .ref q13_233, .ref q14_234, .ref q15_235, .int 0, .int 0, .int 0, .int 0, .int 0, .int 0]))] := hD
  have hK : va_K (dC, dI) vwCl [(k_2, .object RX2), (k_4, .int)] s := hK
  refine W.widen (k := 191) (n := 8982) (by omega) (by omega) ?_
  refine va_astq hx hb hK hP hD hS 1 0 3 2 rfl rfl rfl rfl (by unfold vp_in; decide) dX1_init_52 (fun H locs hP hD hS => ?_)
  have hP : va_P (dC, dI) vwCl [(d, .inr (1, [.ref h, .ref y, .ref q_1, .int 0, .int 0, .ref q_3, .null, .int 0])), (q_1, .inl (k_2, 40, .inr (.inr (.inr (.inr (va_up fa19 (20 : Int32).toNatClampNeg (some q_226))))))), (q_3, .inl (k_4, 3020, .inl (fun _ => 0))), (q_226, .inr (2, [.int 0, .int 0, .int 0, .ref q3_228, .int 0, .ref q5_229, .int 0, .int 0, .int 0, .int 0, .ref q10_230, .ref q11_231, .ref q12_232, .ref q13_233, .ref q14_234, .ref q15_235, .int 0, .int 0, .int 0, .int 0, .int 0, .int 0]))] H := hP
  have hD : va_D A [(d, .inr (1, [.ref h, .ref y, .ref q_1, .int 0, .int 0, .ref q_3, .null, .int 0])), (q_1, .inl (k_2, 40, .inr (.inr (.inr (.inr (va_up fa19 (20 : Int32).toNatClampNeg (some q_226))))))), (q_3, .inl (k_4, 3020, .inl (fun _ => 0))), (q_226, .inr (2, [.int 0, .int 0, .int 0, .ref q3_228, .int 0, .ref q5_229, .int 0, .int 0, .int 0, .int 0, .ref q10_230, .ref q11_231, .ref q12_232, .ref q13_233, .ref q14_234, .ref q15_235, .int 0, .int 0, .int 0, .int 0, .int 0, .int 0]))] := hD
  obtain ⟨fa20, efa20⟩ : ∃ z : Nat → Option Nat, z = va_up fa19 (20 : Int32).toNatClampNeg (some q_226) := ⟨_, rfl⟩
  rw [← efa20] at hP hD
  have hP := hP.sub (ws' := [(d, .inr (1, [.ref h, .ref y, .ref q_1, .int 0, .int 0, .ref q_3, .null, .int 0])), (q_1, .inl (k_2, 40, .inr (.inr (.inr (.inr fa20))))), (q_3, .inl (k_4, 3020, .inl (fun _ => 0)))]) [0, 1, 2] rfl
  have hD := hD.sub (ws' := [(d, .inr (1, [.ref h, .ref y, .ref q_1, .int 0, .int 0, .ref q_3, .null, .int 0])), (q_1, .inl (k_2, 40, .inr (.inr (.inr (.inr fa20))))), (q_3, .inl (k_4, 3020, .inl (fun _ => 0)))]) [0, 1, 2] (by decide) rfl
  have hK := hK.sub (tys' := [(k_2, .object RX2), (k_4, .int)]) [0, 1] rfl
  refine lv_iinc (v := 21) (lv' := [(3, .int 21), (0, .ref d), (1, .ref h), (2, .ref y)]) hx hb dX1_init_53 hl (k := 0) rfl (by decide) (by decide) rfl (fun ls hl => ?_)
  refine lv_goto (tgt := 34) hx hb dX1_init_56 (by decide) ?_
  refine lv_iload_n hx hb dX1_init_34 rfl (lv_at hl 0 rfl) ?_
  refine lv_bipush (v := 40) hx hb dX1_init_35 (by decide) ?_
  refine lv_icmp_ge (tgt := 59) hx hb dX1_init_37 (by decide) (fun c_236 => absurd c_236 (by decide)) (fun _ => ?_)
  refine lv_aload_n hx hb dX1_init_40 rfl (lv_at hl 1 rfl) ?_
  refine va_get (D := (dC, dI)) (ci := 1) (v := .ref q_1) (C := RX1) (T := TX1) (N := 8) hx hb hts in_c_decl_X1 hown hK hP 0 rfl rfl 2 (by decide) (hts (.fieldLink RX1 11 "OwnedPlaces$Declarations" "functions" "[LOwnedPlaces$Function;") (wm_c_decl 5 rfl)) (fun _ h9 => h9) rfl dX1_init_41 ?_
  refine lv_iload_n hx hb dX1_init_44 rfl (lv_at hl 0 rfl) ?_
  refine va_new (ci := 2) (fs := [.int 0, .int 0, .int 0, .null, .int 0, .null, .int 0, .int 0, .int 0, .int 0, .null, .null, .null, .null, .null, .null, .int 0, .int 0, .int 0, .int 0, .int 0, .int 0]) (C := RX2) (T := TX2) (N := 22) hx hb hts in_c_decl_X2 tyX2 tyX2_ok hown (hts (.classLink RX1 9 RX2) (wm_c_decl 4 rfl)) (hts (.instantiable RX2 22) (wm_c_decl 10 rfl)) (hts (.initialized RX2) (wm_c_decl 11 rfl)) hK hP hD hS hA rfl dv_X2 (show 191 + 1 ≤ 362 by omega) (show 8982 + 22 ≤ 14340 by omega) dX1_init_45 (fun q_237 H hP hD hS => ?_)
  have hP : va_P (dC, dI) vwCl [(d, .inr (1, [.ref h, .ref y, .ref q_1, .int 0, .int 0, .ref q_3, .null, .int 0])), (q_1, .inl (k_2, 40, .inr (.inr (.inr (.inr fa20))))), (q_3, .inl (k_4, 3020, .inl (fun _ => 0))), (q_237, .inr (2, [.int 0, .int 0, .int 0, .null, .int 0, .null, .int 0, .int 0, .int 0, .int 0, .null, .null, .null, .null, .null, .null, .int 0, .int 0, .int 0, .int 0, .int 0, .int 0]))] H := hP
  have hD : va_D A [(d, .inr (1, [.ref h, .ref y, .ref q_1, .int 0, .int 0, .ref q_3, .null, .int 0])), (q_1, .inl (k_2, 40, .inr (.inr (.inr (.inr fa20))))), (q_3, .inl (k_4, 3020, .inl (fun _ => 0))), (q_237, .inr (2, [.int 0, .int 0, .int 0, .null, .int 0, .null, .int 0, .int 0, .int 0, .int 0, .null, .null, .null, .null, .null, .null, .int 0, .int 0, .int 0, .int 0, .int 0, .int 0]))] := hD
  refine W.widen (k := 192) (n := 9004) (by omega) (by omega) ?_
  refine lv_dup hx hb dX1_init_48 rfl ?_
  have hPc := hP.sub (ws' := [(q_237, .inr (2, [.int 0, .int 0, .int 0, .null, .int 0, .null, .int 0, .int 0, .int 0, .int 0, .null, .null, .null, .null, .null, .null, .int 0, .int 0, .int 0, .int 0, .int 0, .int 0]))]) [3] rfl
  have hDc := hD.sub (ws' := [(q_237, .inr (2, [.int 0, .int 0, .int 0, .null, .int 0, .null, .int 0, .int 0, .int 0, .int 0, .null, .null, .null, .null, .null, .null, .int 0, .int 0, .int 0, .int 0, .int 0, .int 0]))]) [3] (by decide) rfl
  have hKc := hK.sub (tys' := []) [] rfl
  have hFc := va_free (wc := [(q_237, .inr (2, [.int 0, .int 0, .int 0, .null, .int 0, .null, .int 0, .int 0, .int 0, .int 0, .null, .null, .null, .null, .null, .null, .int 0, .int 0, .int 0, .int 0, .int 0, .int 0]))]) hD hS hA [3] rfl
  refine va_callv (va_runIN (As := []) (rest := [.ref q_237, .int 21, .ref q_1]) ⟨hx, hb, hml, hown, hts⟩ (c_function l dC dI q_237 H.size) ⟨va_cnB 0 hts g_c_decl_c_function_49 rfl rfl rfl hpre0 (hts (.initialized RX2) (wm_c_decl 11 rfl)) (by decide +kernel) ⟨Nat.le_of_ble_eq_true rfl, Nat.le_of_ble_eq_true rfl⟩, rfl, (hts (.instanceMethod yX2_init) (wm_c_decl 23 rfl))⟩ ⟨fun a U g mk q => by obtain ⟨q0, q1, qP, qK, qD⟩ := q; exact ⟨q0, q1, qP, va_K.moved (u := U) (U := U.calling g mk a) (Vm.Alike.refl U.vm) qK, qD⟩, fun U hU hW => ⟨rfl, by rw [hU], by rw [hU]; exact hPc, va_K.moved hW.alike hKc, hDc.weaken (fun _ _ _ _ => trivial)⟩⟩ rfl rfl hl.1 rfl (lv_room (Nat.le_of_ble_eq_true rfl)) dX1_init_49 ⟨(show 192 + 8 ≤ 362 by omega), (show 9004 + 260 ≤ 14340 by omega)⟩) hS (fun q _ h => hFc q h) hFc (fun u tS H1 locs ht hvm hw hB hz1 hk1 hS => ?_)
  obtain ⟨q3_239, q5_240, q10_241, q11_242, q12_243, q13_244, q14_245, q15_246, hP1, hK1, hD1⟩ := hB
  rw [ht] at hP1
  have hK1 := va_K.moved hvm.symm hK1
  obtain ⟨hP, hD⟩ := va_join (wr := [(d, .inr (1, [.ref h, .ref y, .ref q_1, .int 0, .int 0, .ref q_3, .null, .int 0])), (q_1, .inl (k_2, 40, .inr (.inr (.inr (.inr fa20))))), (q_3, .inl (k_4, 3020, .inl (fun _ => 0)))]) (w1 := [(q_237, .inr (2, [.int 0, .int 0, .int 0, .ref q3_239, .int 0, .ref q5_240, .int 0, .int 0, .int 0, .int 0, .ref q10_241, .ref q11_242, .ref q12_243, .ref q13_244, .ref q14_245, .ref q15_246, .int 0, .int 0, .int 0, .int 0, .int 0, .int 0]))]) hP hD [3] [0, 1, 2] rfl rfl (by decide) (by decide) hk1 hFc hP1 hD1
  generalize H1 = H at hP hS ⊢
  have hP : va_P (dC, dI) vwCl [(d, .inr (1, [.ref h, .ref y, .ref q_1, .int 0, .int 0, .ref q_3, .null, .int 0])), (q_1, .inl (k_2, 40, .inr (.inr (.inr (.inr fa20))))), (q_3, .inl (k_4, 3020, .inl (fun _ => 0))), (q_237, .inr (2, [.int 0, .int 0, .int 0, .ref q3_239, .int 0, .ref q5_240, .int 0, .int 0, .int 0, .int 0, .ref q10_241, .ref q11_242, .ref q12_243, .ref q13_244, .ref q14_245, .ref q15_246, .int 0, .int 0, .int 0, .int 0, .int 0, .int 0]))] H := hP
  have hD : va_D A [(d, .inr (1, [.ref h, .ref y, .ref q_1, .int 0, .int 0, .ref q_3, .null, .int 0])), (q_1, .inl (k_2, 40, .inr (.inr (.inr (.inr fa20))))), (q_3, .inl (k_4, 3020, .inl (fun _ => 0))), (q_237, .inr (2, [.int 0, .int 0, .int 0, .ref q3_239, .int 0, .ref q5_240, .int 0, .int 0, .int 0, .int 0, .ref q10_241, .ref q11_242, .ref q12_243, .ref q13_244, .ref q14_245, .ref q15_246, .int 0, .int 0, .int 0, .int 0, .int 0, .int 0]))] := hD
  have hK : va_K (dC, dI) vwCl [(k_2, .object RX2), (k_4, .int)] s := hK
  refine W.widen (k := 200) (n := 9264) (by omega) (by omega) ?_
  refine va_astq hx hb hK hP hD hS 1 0 3 2 rfl rfl rfl rfl (by unfold vp_in; decide) dX1_init_52 (fun H locs hP hD hS => ?_)
  have hP : va_P (dC, dI) vwCl [(d, .inr (1, [.ref h, .ref y, .ref q_1, .int 0, .int 0, .ref q_3, .null, .int 0])), (q_1, .inl (k_2, 40, .inr (.inr (.inr (.inr (va_up fa20 (21 : Int32).toNatClampNeg (some q_237))))))), (q_3, .inl (k_4, 3020, .inl (fun _ => 0))), (q_237, .inr (2, [.int 0, .int 0, .int 0, .ref q3_239, .int 0, .ref q5_240, .int 0, .int 0, .int 0, .int 0, .ref q10_241, .ref q11_242, .ref q12_243, .ref q13_244, .ref q14_245, .ref q15_246, .int 0, .int 0, .int 0, .int 0, .int 0, .int 0]))] H := hP
  have hD : va_D A [(d, .inr (1, [.ref h, .ref y, .ref q_1, .int 0, .int 0, .ref q_3, .null, .int 0])), (q_1, .inl (k_2, 40, .inr (.inr (.inr (.inr (va_up fa20 (21 : Int32).toNatClampNeg (some q_237))))))), (q_3, .inl (k_4, 3020, .inl (fun _ => 0))), (q_237, .inr (2, [.int 0, .int 0, .int 0, .ref q3_239, .int 0, .ref q5_240, .int 0, .int 0, .int 0, .int 0, .ref q10_241, .ref q11_242, .ref q12_243, .ref q13_244, .ref q14_245, .ref q15_246, .int 0, .int 0, .int 0, .int 0, .int 0, .int 0]))] := hD
  obtain ⟨fa21, efa21⟩ : ∃ z : Nat → Option Nat, z = va_up fa20 (21 : Int32).toNatClampNeg (some q_237) := ⟨_, rfl⟩
  rw [← efa21] at hP hD
  have hP := hP.sub (ws' := [(d, .inr (1, [.ref h, .ref y, .ref q_1, .int 0, .int 0, .ref q_3, .null, .int 0])), (q_1, .inl (k_2, 40, .inr (.inr (.inr (.inr fa21))))), (q_3, .inl (k_4, 3020, .inl (fun _ => 0)))]) [0, 1, 2] rfl
  have hD := hD.sub (ws' := [(d, .inr (1, [.ref h, .ref y, .ref q_1, .int 0, .int 0, .ref q_3, .null, .int 0])), (q_1, .inl (k_2, 40, .inr (.inr (.inr (.inr fa21))))), (q_3, .inl (k_4, 3020, .inl (fun _ => 0)))]) [0, 1, 2] (by decide) rfl
  have hK := hK.sub (tys' := [(k_2, .object RX2), (k_4, .int)]) [0, 1] rfl
  refine lv_iinc (v := 22) (lv' := [(3, .int 22), (0, .ref d), (1, .ref h), (2, .ref y)]) hx hb dX1_init_53 hl (k := 0) rfl (by decide) (by decide) rfl (fun ls hl => ?_)
  refine lv_goto (tgt := 34) hx hb dX1_init_56 (by decide) ?_
  refine lv_iload_n hx hb dX1_init_34 rfl (lv_at hl 0 rfl) ?_
  refine lv_bipush (v := 40) hx hb dX1_init_35 (by decide) ?_
  refine lv_icmp_ge (tgt := 59) hx hb dX1_init_37 (by decide) (fun c_247 => absurd c_247 (by decide)) (fun _ => ?_)
  refine lv_aload_n hx hb dX1_init_40 rfl (lv_at hl 1 rfl) ?_
  refine va_get (D := (dC, dI)) (ci := 1) (v := .ref q_1) (C := RX1) (T := TX1) (N := 8) hx hb hts in_c_decl_X1 hown hK hP 0 rfl rfl 2 (by decide) (hts (.fieldLink RX1 11 "OwnedPlaces$Declarations" "functions" "[LOwnedPlaces$Function;") (wm_c_decl 5 rfl)) (fun _ h9 => h9) rfl dX1_init_41 ?_
  refine lv_iload_n hx hb dX1_init_44 rfl (lv_at hl 0 rfl) ?_
  refine va_new (ci := 2) (fs := [.int 0, .int 0, .int 0, .null, .int 0, .null, .int 0, .int 0, .int 0, .int 0, .null, .null, .null, .null, .null, .null, .int 0, .int 0, .int 0, .int 0, .int 0, .int 0]) (C := RX2) (T := TX2) (N := 22) hx hb hts in_c_decl_X2 tyX2 tyX2_ok hown (hts (.classLink RX1 9 RX2) (wm_c_decl 4 rfl)) (hts (.instantiable RX2 22) (wm_c_decl 10 rfl)) (hts (.initialized RX2) (wm_c_decl 11 rfl)) hK hP hD hS hA rfl dv_X2 (show 200 + 1 ≤ 362 by omega) (show 9264 + 22 ≤ 14340 by omega) dX1_init_45 (fun q_248 H hP hD hS => ?_)
  have hP : va_P (dC, dI) vwCl [(d, .inr (1, [.ref h, .ref y, .ref q_1, .int 0, .int 0, .ref q_3, .null, .int 0])), (q_1, .inl (k_2, 40, .inr (.inr (.inr (.inr fa21))))), (q_3, .inl (k_4, 3020, .inl (fun _ => 0))), (q_248, .inr (2, [.int 0, .int 0, .int 0, .null, .int 0, .null, .int 0, .int 0, .int 0, .int 0, .null, .null, .null, .null, .null, .null, .int 0, .int 0, .int 0, .int 0, .int 0, .int 0]))] H := hP
  have hD : va_D A [(d, .inr (1, [.ref h, .ref y, .ref q_1, .int 0, .int 0, .ref q_3, .null, .int 0])), (q_1, .inl (k_2, 40, .inr (.inr (.inr (.inr fa21))))), (q_3, .inl (k_4, 3020, .inl (fun _ => 0))), (q_248, .inr (2, [.int 0, .int 0, .int 0, .null, .int 0, .null, .int 0, .int 0, .int 0, .int 0, .null, .null, .null, .null, .null, .null, .int 0, .int 0, .int 0, .int 0, .int 0, .int 0]))] := hD
  refine W.widen (k := 201) (n := 9286) (by omega) (by omega) ?_
  refine lv_dup hx hb dX1_init_48 rfl ?_
  have hPc := hP.sub (ws' := [(q_248, .inr (2, [.int 0, .int 0, .int 0, .null, .int 0, .null, .int 0, .int 0, .int 0, .int 0, .null, .null, .null, .null, .null, .null, .int 0, .int 0, .int 0, .int 0, .int 0, .int 0]))]) [3] rfl
  have hDc := hD.sub (ws' := [(q_248, .inr (2, [.int 0, .int 0, .int 0, .null, .int 0, .null, .int 0, .int 0, .int 0, .int 0, .null, .null, .null, .null, .null, .null, .int 0, .int 0, .int 0, .int 0, .int 0, .int 0]))]) [3] (by decide) rfl
  have hKc := hK.sub (tys' := []) [] rfl
  have hFc := va_free (wc := [(q_248, .inr (2, [.int 0, .int 0, .int 0, .null, .int 0, .null, .int 0, .int 0, .int 0, .int 0, .null, .null, .null, .null, .null, .null, .int 0, .int 0, .int 0, .int 0, .int 0, .int 0]))]) hD hS hA [3] rfl
  refine va_callv (va_runIN (As := []) (rest := [.ref q_248, .int 22, .ref q_1]) ⟨hx, hb, hml, hown, hts⟩ (c_function l dC dI q_248 H.size) ⟨va_cnB 0 hts g_c_decl_c_function_49 rfl rfl rfl hpre0 (hts (.initialized RX2) (wm_c_decl 11 rfl)) (by decide +kernel) ⟨Nat.le_of_ble_eq_true rfl, Nat.le_of_ble_eq_true rfl⟩, rfl, (hts (.instanceMethod yX2_init) (wm_c_decl 23 rfl))⟩ ⟨fun a U g mk q => by obtain ⟨q0, q1, qP, qK, qD⟩ := q; exact ⟨q0, q1, qP, va_K.moved (u := U) (U := U.calling g mk a) (Vm.Alike.refl U.vm) qK, qD⟩, fun U hU hW => ⟨rfl, by rw [hU], by rw [hU]; exact hPc, va_K.moved hW.alike hKc, hDc.weaken (fun _ _ _ _ => trivial)⟩⟩ rfl rfl hl.1 rfl (lv_room (Nat.le_of_ble_eq_true rfl)) dX1_init_49 ⟨(show 201 + 8 ≤ 362 by omega), (show 9286 + 260 ≤ 14340 by omega)⟩) hS (fun q _ h => hFc q h) hFc (fun u tS H1 locs ht hvm hw hB hz1 hk1 hS => ?_)
  obtain ⟨q3_250, q5_251, q10_252, q11_253, q12_254, q13_255, q14_256, q15_257, hP1, hK1, hD1⟩ := hB
  rw [ht] at hP1
  have hK1 := va_K.moved hvm.symm hK1
  obtain ⟨hP, hD⟩ := va_join (wr := [(d, .inr (1, [.ref h, .ref y, .ref q_1, .int 0, .int 0, .ref q_3, .null, .int 0])), (q_1, .inl (k_2, 40, .inr (.inr (.inr (.inr fa21))))), (q_3, .inl (k_4, 3020, .inl (fun _ => 0)))]) (w1 := [(q_248, .inr (2, [.int 0, .int 0, .int 0, .ref q3_250, .int 0, .ref q5_251, .int 0, .int 0, .int 0, .int 0, .ref q10_252, .ref q11_253, .ref q12_254, .ref q13_255, .ref q14_256, .ref q15_257, .int 0, .int 0, .int 0, .int 0, .int 0, .int 0]))]) hP hD [3] [0, 1, 2] rfl rfl (by decide) (by decide) hk1 hFc hP1 hD1
  generalize H1 = H at hP hS ⊢
  have hP : va_P (dC, dI) vwCl [(d, .inr (1, [.ref h, .ref y, .ref q_1, .int 0, .int 0, .ref q_3, .null, .int 0])), (q_1, .inl (k_2, 40, .inr (.inr (.inr (.inr fa21))))), (q_3, .inl (k_4, 3020, .inl (fun _ => 0))), (q_248, .inr (2, [.int 0, .int 0, .int 0, .ref q3_250, .int 0, .ref q5_251, .int 0, .int 0, .int 0, .int 0, .ref q10_252, .ref q11_253, .ref q12_254, .ref q13_255, .ref q14_256, .ref q15_257, .int 0, .int 0, .int 0, .int 0, .int 0, .int 0]))] H := hP
  have hD : va_D A [(d, .inr (1, [.ref h, .ref y, .ref q_1, .int 0, .int 0, .ref q_3, .null, .int 0])), (q_1, .inl (k_2, 40, .inr (.inr (.inr (.inr fa21))))), (q_3, .inl (k_4, 3020, .inl (fun _ => 0))), (q_248, .inr (2, [.int 0, .int 0, .int 0, .ref q3_250, .int 0, .ref q5_251, .int 0, .int 0, .int 0, .int 0, .ref q10_252, .ref q11_253, .ref q12_254, .ref q13_255, .ref q14_256, .ref q15_257, .int 0, .int 0, .int 0, .int 0, .int 0, .int 0]))] := hD
  have hK : va_K (dC, dI) vwCl [(k_2, .object RX2), (k_4, .int)] s := hK
  refine W.widen (k := 209) (n := 9546) (by omega) (by omega) ?_
  refine va_astq hx hb hK hP hD hS 1 0 3 2 rfl rfl rfl rfl (by unfold vp_in; decide) dX1_init_52 (fun H locs hP hD hS => ?_)
  have hP : va_P (dC, dI) vwCl [(d, .inr (1, [.ref h, .ref y, .ref q_1, .int 0, .int 0, .ref q_3, .null, .int 0])), (q_1, .inl (k_2, 40, .inr (.inr (.inr (.inr (va_up fa21 (22 : Int32).toNatClampNeg (some q_248))))))), (q_3, .inl (k_4, 3020, .inl (fun _ => 0))), (q_248, .inr (2, [.int 0, .int 0, .int 0, .ref q3_250, .int 0, .ref q5_251, .int 0, .int 0, .int 0, .int 0, .ref q10_252, .ref q11_253, .ref q12_254, .ref q13_255, .ref q14_256, .ref q15_257, .int 0, .int 0, .int 0, .int 0, .int 0, .int 0]))] H := hP
  have hD : va_D A [(d, .inr (1, [.ref h, .ref y, .ref q_1, .int 0, .int 0, .ref q_3, .null, .int 0])), (q_1, .inl (k_2, 40, .inr (.inr (.inr (.inr (va_up fa21 (22 : Int32).toNatClampNeg (some q_248))))))), (q_3, .inl (k_4, 3020, .inl (fun _ => 0))), (q_248, .inr (2, [.int 0, .int 0, .int 0, .ref q3_250, .int 0, .ref q5_251, .int 0, .int 0, .int 0, .int 0, .ref q10_252, .ref q11_253, .ref q12_254, .ref q13_255, .ref q14_256, .ref q15_257, .int 0, .int 0, .int 0, .int 0, .int 0, .int 0]))] := hD
  obtain ⟨fa22, efa22⟩ : ∃ z : Nat → Option Nat, z = va_up fa21 (22 : Int32).toNatClampNeg (some q_248) := ⟨_, rfl⟩
  rw [← efa22] at hP hD
  have hP := hP.sub (ws' := [(d, .inr (1, [.ref h, .ref y, .ref q_1, .int 0, .int 0, .ref q_3, .null, .int 0])), (q_1, .inl (k_2, 40, .inr (.inr (.inr (.inr fa22))))), (q_3, .inl (k_4, 3020, .inl (fun _ => 0)))]) [0, 1, 2] rfl
  have hD := hD.sub (ws' := [(d, .inr (1, [.ref h, .ref y, .ref q_1, .int 0, .int 0, .ref q_3, .null, .int 0])), (q_1, .inl (k_2, 40, .inr (.inr (.inr (.inr fa22))))), (q_3, .inl (k_4, 3020, .inl (fun _ => 0)))]) [0, 1, 2] (by decide) rfl
  have hK := hK.sub (tys' := [(k_2, .object RX2), (k_4, .int)]) [0, 1] rfl
  refine lv_iinc (v := 23) (lv' := [(3, .int 23), (0, .ref d), (1, .ref h), (2, .ref y)]) hx hb dX1_init_53 hl (k := 0) rfl (by decide) (by decide) rfl (fun ls hl => ?_)
  refine lv_goto (tgt := 34) hx hb dX1_init_56 (by decide) ?_
  refine lv_iload_n hx hb dX1_init_34 rfl (lv_at hl 0 rfl) ?_
  refine lv_bipush (v := 40) hx hb dX1_init_35 (by decide) ?_
  refine lv_icmp_ge (tgt := 59) hx hb dX1_init_37 (by decide) (fun c_258 => absurd c_258 (by decide)) (fun _ => ?_)
  refine lv_aload_n hx hb dX1_init_40 rfl (lv_at hl 1 rfl) ?_
  refine va_get (D := (dC, dI)) (ci := 1) (v := .ref q_1) (C := RX1) (T := TX1) (N := 8) hx hb hts in_c_decl_X1 hown hK hP 0 rfl rfl 2 (by decide) (hts (.fieldLink RX1 11 "OwnedPlaces$Declarations" "functions" "[LOwnedPlaces$Function;") (wm_c_decl 5 rfl)) (fun _ h9 => h9) rfl dX1_init_41 ?_
  refine lv_iload_n hx hb dX1_init_44 rfl (lv_at hl 0 rfl) ?_
  refine va_new (ci := 2) (fs := [.int 0, .int 0, .int 0, .null, .int 0, .null, .int 0, .int 0, .int 0, .int 0, .null, .null, .null, .null, .null, .null, .int 0, .int 0, .int 0, .int 0, .int 0, .int 0]) (C := RX2) (T := TX2) (N := 22) hx hb hts in_c_decl_X2 tyX2 tyX2_ok hown (hts (.classLink RX1 9 RX2) (wm_c_decl 4 rfl)) (hts (.instantiable RX2 22) (wm_c_decl 10 rfl)) (hts (.initialized RX2) (wm_c_decl 11 rfl)) hK hP hD hS hA rfl dv_X2 (show 209 + 1 ≤ 362 by omega) (show 9546 + 22 ≤ 14340 by omega) dX1_init_45 (fun q_259 H hP hD hS => ?_)
  have hP : va_P (dC, dI) vwCl [(d, .inr (1, [.ref h, .ref y, .ref q_1, .int 0, .int 0, .ref q_3, .null, .int 0])), (q_1, .inl (k_2, 40, .inr (.inr (.inr (.inr fa22))))), (q_3, .inl (k_4, 3020, .inl (fun _ => 0))), (q_259, .inr (2, [.int 0, .int 0, .int 0, .null, .int 0, .null, .int 0, .int 0, .int 0, .int 0, .null, .null, .null, .null, .null, .null, .int 0, .int 0, .int 0, .int 0, .int 0, .int 0]))] H := hP
  have hD : va_D A [(d, .inr (1, [.ref h, .ref y, .ref q_1, .int 0, .int 0, .ref q_3, .null, .int 0])), (q_1, .inl (k_2, 40, .inr (.inr (.inr (.inr fa22))))), (q_3, .inl (k_4, 3020, .inl (fun _ => 0))), (q_259, .inr (2, [.int 0, .int 0, .int 0, .null, .int 0, .null, .int 0, .int 0, .int 0, .int 0, .null, .null, .null, .null, .null, .null, .int 0, .int 0, .int 0, .int 0, .int 0, .int 0]))] := hD
  refine W.widen (k := 210) (n := 9568) (by omega) (by omega) ?_
  refine lv_dup hx hb dX1_init_48 rfl ?_
  have hPc := hP.sub (ws' := [(q_259, .inr (2, [.int 0, .int 0, .int 0, .null, .int 0, .null, .int 0, .int 0, .int 0, .int 0, .null, .null, .null, .null, .null, .null, .int 0, .int 0, .int 0, .int 0, .int 0, .int 0]))]) [3] rfl
  have hDc := hD.sub (ws' := [(q_259, .inr (2, [.int 0, .int 0, .int 0, .null, .int 0, .null, .int 0, .int 0, .int 0, .int 0, .null, .null, .null, .null, .null, .null, .int 0, .int 0, .int 0, .int 0, .int 0, .int 0]))]) [3] (by decide) rfl
  have hKc := hK.sub (tys' := []) [] rfl
  have hFc := va_free (wc := [(q_259, .inr (2, [.int 0, .int 0, .int 0, .null, .int 0, .null, .int 0, .int 0, .int 0, .int 0, .null, .null, .null, .null, .null, .null, .int 0, .int 0, .int 0, .int 0, .int 0, .int 0]))]) hD hS hA [3] rfl
  refine va_callv (va_runIN (As := []) (rest := [.ref q_259, .int 23, .ref q_1]) ⟨hx, hb, hml, hown, hts⟩ (c_function l dC dI q_259 H.size) ⟨va_cnB 0 hts g_c_decl_c_function_49 rfl rfl rfl hpre0 (hts (.initialized RX2) (wm_c_decl 11 rfl)) (by decide +kernel) ⟨Nat.le_of_ble_eq_true rfl, Nat.le_of_ble_eq_true rfl⟩, rfl, (hts (.instanceMethod yX2_init) (wm_c_decl 23 rfl))⟩ ⟨fun a U g mk q => by obtain ⟨q0, q1, qP, qK, qD⟩ := q; exact ⟨q0, q1, qP, va_K.moved (u := U) (U := U.calling g mk a) (Vm.Alike.refl U.vm) qK, qD⟩, fun U hU hW => ⟨rfl, by rw [hU], by rw [hU]; exact hPc, va_K.moved hW.alike hKc, hDc.weaken (fun _ _ _ _ => trivial)⟩⟩ rfl rfl hl.1 rfl (lv_room (Nat.le_of_ble_eq_true rfl)) dX1_init_49 ⟨(show 210 + 8 ≤ 362 by omega), (show 9568 + 260 ≤ 14340 by omega)⟩) hS (fun q _ h => hFc q h) hFc (fun u tS H1 locs ht hvm hw hB hz1 hk1 hS => ?_)
  obtain ⟨q3_261, q5_262, q10_263, q11_264, q12_265, q13_266, q14_267, q15_268, hP1, hK1, hD1⟩ := hB
  rw [ht] at hP1
  have hK1 := va_K.moved hvm.symm hK1
  obtain ⟨hP, hD⟩ := va_join (wr := [(d, .inr (1, [.ref h, .ref y, .ref q_1, .int 0, .int 0, .ref q_3, .null, .int 0])), (q_1, .inl (k_2, 40, .inr (.inr (.inr (.inr fa22))))), (q_3, .inl (k_4, 3020, .inl (fun _ => 0)))]) (w1 := [(q_259, .inr (2, [.int 0, .int 0, .int 0, .ref q3_261, .int 0, .ref q5_262, .int 0, .int 0, .int 0, .int 0, .ref q10_263, .ref q11_264, .ref q12_265, .ref q13_266, .ref q14_267, .ref q15_268, .int 0, .int 0, .int 0, .int 0, .int 0, .int 0]))]) hP hD [3] [0, 1, 2] rfl rfl (by decide) (by decide) hk1 hFc hP1 hD1
  generalize H1 = H at hP hS ⊢
  have hP : va_P (dC, dI) vwCl [(d, .inr (1, [.ref h, .ref y, .ref q_1, .int 0, .int 0, .ref q_3, .null, .int 0])), (q_1, .inl (k_2, 40, .inr (.inr (.inr (.inr fa22))))), (q_3, .inl (k_4, 3020, .inl (fun _ => 0))), (q_259, .inr (2, [.int 0, .int 0, .int 0, .ref q3_261, .int 0, .ref q5_262, .int 0, .int 0, .int 0, .int 0, .ref q10_263, .ref q11_264, .ref q12_265, .ref q13_266, .ref q14_267, .ref q15_268, .int 0, .int 0, .int 0, .int 0, .int 0, .int 0]))] H := hP
  have hD : va_D A [(d, .inr (1, [.ref h, .ref y, .ref q_1, .int 0, .int 0, .ref q_3, .null, .int 0])), (q_1, .inl (k_2, 40, .inr (.inr (.inr (.inr fa22))))), (q_3, .inl (k_4, 3020, .inl (fun _ => 0))), (q_259, .inr (2, [.int 0, .int 0, .int 0, .ref q3_261, .int 0, .ref q5_262, .int 0, .int 0, .int 0, .int 0, .ref q10_263, .ref q11_264, .ref q12_265, .ref q13_266, .ref q14_267, .ref q15_268, .int 0, .int 0, .int 0, .int 0, .int 0, .int 0]))] := hD
  have hK : va_K (dC, dI) vwCl [(k_2, .object RX2), (k_4, .int)] s := hK
  refine W.widen (k := 218) (n := 9828) (by omega) (by omega) ?_
  refine va_astq hx hb hK hP hD hS 1 0 3 2 rfl rfl rfl rfl (by unfold vp_in; decide) dX1_init_52 (fun H locs hP hD hS => ?_)
  have hP : va_P (dC, dI) vwCl [(d, .inr (1, [.ref h, .ref y, .ref q_1, .int 0, .int 0, .ref q_3, .null, .int 0])), (q_1, .inl (k_2, 40, .inr (.inr (.inr (.inr (va_up fa22 (23 : Int32).toNatClampNeg (some q_259))))))), (q_3, .inl (k_4, 3020, .inl (fun _ => 0))), (q_259, .inr (2, [.int 0, .int 0, .int 0, .ref q3_261, .int 0, .ref q5_262, .int 0, .int 0, .int 0, .int 0, .ref q10_263, .ref q11_264, .ref q12_265, .ref q13_266, .ref q14_267, .ref q15_268, .int 0, .int 0, .int 0, .int 0, .int 0, .int 0]))] H := hP
  have hD : va_D A [(d, .inr (1, [.ref h, .ref y, .ref q_1, .int 0, .int 0, .ref q_3, .null, .int 0])), (q_1, .inl (k_2, 40, .inr (.inr (.inr (.inr (va_up fa22 (23 : Int32).toNatClampNeg (some q_259))))))), (q_3, .inl (k_4, 3020, .inl (fun _ => 0))), (q_259, .inr (2, [.int 0, .int 0, .int 0, .ref q3_261, .int 0, .ref q5_262, .int 0, .int 0, .int 0, .int 0, .ref q10_263, .ref q11_264, .ref q12_265, .ref q13_266, .ref q14_267, .ref q15_268, .int 0, .int 0, .int 0, .int 0, .int 0, .int 0]))] := hD
  obtain ⟨fa23, efa23⟩ : ∃ z : Nat → Option Nat, z = va_up fa22 (23 : Int32).toNatClampNeg (some q_259) := ⟨_, rfl⟩
  rw [← efa23] at hP hD
  have hP := hP.sub (ws' := [(d, .inr (1, [.ref h, .ref y, .ref q_1, .int 0, .int 0, .ref q_3, .null, .int 0])), (q_1, .inl (k_2, 40, .inr (.inr (.inr (.inr fa23))))), (q_3, .inl (k_4, 3020, .inl (fun _ => 0)))]) [0, 1, 2] rfl
  have hD := hD.sub (ws' := [(d, .inr (1, [.ref h, .ref y, .ref q_1, .int 0, .int 0, .ref q_3, .null, .int 0])), (q_1, .inl (k_2, 40, .inr (.inr (.inr (.inr fa23))))), (q_3, .inl (k_4, 3020, .inl (fun _ => 0)))]) [0, 1, 2] (by decide) rfl
  have hK := hK.sub (tys' := [(k_2, .object RX2), (k_4, .int)]) [0, 1] rfl
  refine lv_iinc (v := 24) (lv' := [(3, .int 24), (0, .ref d), (1, .ref h), (2, .ref y)]) hx hb dX1_init_53 hl (k := 0) rfl (by decide) (by decide) rfl (fun ls hl => ?_)
  refine lv_goto (tgt := 34) hx hb dX1_init_56 (by decide) ?_
  refine lv_iload_n hx hb dX1_init_34 rfl (lv_at hl 0 rfl) ?_
  refine lv_bipush (v := 40) hx hb dX1_init_35 (by decide) ?_
  refine lv_icmp_ge (tgt := 59) hx hb dX1_init_37 (by decide) (fun c_269 => absurd c_269 (by decide)) (fun _ => ?_)
  refine lv_aload_n hx hb dX1_init_40 rfl (lv_at hl 1 rfl) ?_
  refine va_get (D := (dC, dI)) (ci := 1) (v := .ref q_1) (C := RX1) (T := TX1) (N := 8) hx hb hts in_c_decl_X1 hown hK hP 0 rfl rfl 2 (by decide) (hts (.fieldLink RX1 11 "OwnedPlaces$Declarations" "functions" "[LOwnedPlaces$Function;") (wm_c_decl 5 rfl)) (fun _ h9 => h9) rfl dX1_init_41 ?_
  refine lv_iload_n hx hb dX1_init_44 rfl (lv_at hl 0 rfl) ?_
  refine va_new (ci := 2) (fs := [.int 0, .int 0, .int 0, .null, .int 0, .null, .int 0, .int 0, .int 0, .int 0, .null, .null, .null, .null, .null, .null, .int 0, .int 0, .int 0, .int 0, .int 0, .int 0]) (C := RX2) (T := TX2) (N := 22) hx hb hts in_c_decl_X2 tyX2 tyX2_ok hown (hts (.classLink RX1 9 RX2) (wm_c_decl 4 rfl)) (hts (.instantiable RX2 22) (wm_c_decl 10 rfl)) (hts (.initialized RX2) (wm_c_decl 11 rfl)) hK hP hD hS hA rfl dv_X2 (show 218 + 1 ≤ 362 by omega) (show 9828 + 22 ≤ 14340 by omega) dX1_init_45 (fun q_270 H hP hD hS => ?_)
  have hP : va_P (dC, dI) vwCl [(d, .inr (1, [.ref h, .ref y, .ref q_1, .int 0, .int 0, .ref q_3, .null, .int 0])), (q_1, .inl (k_2, 40, .inr (.inr (.inr (.inr fa23))))), (q_3, .inl (k_4, 3020, .inl (fun _ => 0))), (q_270, .inr (2, [.int 0, .int 0, .int 0, .null, .int 0, .null, .int 0, .int 0, .int 0, .int 0, .null, .null, .null, .null, .null, .null, .int 0, .int 0, .int 0, .int 0, .int 0, .int 0]))] H := hP
  have hD : va_D A [(d, .inr (1, [.ref h, .ref y, .ref q_1, .int 0, .int 0, .ref q_3, .null, .int 0])), (q_1, .inl (k_2, 40, .inr (.inr (.inr (.inr fa23))))), (q_3, .inl (k_4, 3020, .inl (fun _ => 0))), (q_270, .inr (2, [.int 0, .int 0, .int 0, .null, .int 0, .null, .int 0, .int 0, .int 0, .int 0, .null, .null, .null, .null, .null, .null, .int 0, .int 0, .int 0, .int 0, .int 0, .int 0]))] := hD
  refine W.widen (k := 219) (n := 9850) (by omega) (by omega) ?_
  refine lv_dup hx hb dX1_init_48 rfl ?_
  have hPc := hP.sub (ws' := [(q_270, .inr (2, [.int 0, .int 0, .int 0, .null, .int 0, .null, .int 0, .int 0, .int 0, .int 0, .null, .null, .null, .null, .null, .null, .int 0, .int 0, .int 0, .int 0, .int 0, .int 0]))]) [3] rfl
  have hDc := hD.sub (ws' := [(q_270, .inr (2, [.int 0, .int 0, .int 0, .null, .int 0, .null, .int 0, .int 0, .int 0, .int 0, .null, .null, .null, .null, .null, .null, .int 0, .int 0, .int 0, .int 0, .int 0, .int 0]))]) [3] (by decide) rfl
  have hKc := hK.sub (tys' := []) [] rfl
  have hFc := va_free (wc := [(q_270, .inr (2, [.int 0, .int 0, .int 0, .null, .int 0, .null, .int 0, .int 0, .int 0, .int 0, .null, .null, .null, .null, .null, .null, .int 0, .int 0, .int 0, .int 0, .int 0, .int 0]))]) hD hS hA [3] rfl
  refine va_callv (va_runIN (As := []) (rest := [.ref q_270, .int 24, .ref q_1]) ⟨hx, hb, hml, hown, hts⟩ (c_function l dC dI q_270 H.size) ⟨va_cnB 0 hts g_c_decl_c_function_49 rfl rfl rfl hpre0 (hts (.initialized RX2) (wm_c_decl 11 rfl)) (by decide +kernel) ⟨Nat.le_of_ble_eq_true rfl, Nat.le_of_ble_eq_true rfl⟩, rfl, (hts (.instanceMethod yX2_init) (wm_c_decl 23 rfl))⟩ ⟨fun a U g mk q => by obtain ⟨q0, q1, qP, qK, qD⟩ := q; exact ⟨q0, q1, qP, va_K.moved (u := U) (U := U.calling g mk a) (Vm.Alike.refl U.vm) qK, qD⟩, fun U hU hW => ⟨rfl, by rw [hU], by rw [hU]; exact hPc, va_K.moved hW.alike hKc, hDc.weaken (fun _ _ _ _ => trivial)⟩⟩ rfl rfl hl.1 rfl (lv_room (Nat.le_of_ble_eq_true rfl)) dX1_init_49 ⟨(show 219 + 8 ≤ 362 by omega), (show 9850 + 260 ≤ 14340 by omega)⟩) hS (fun q _ h => hFc q h) hFc (fun u tS H1 locs ht hvm hw hB hz1 hk1 hS => ?_)
  obtain ⟨q3_272, q5_273, q10_274, q11_275, q12_276, q13_277, q14_278, q15_279, hP1, hK1, hD1⟩ := hB
  rw [ht] at hP1
  have hK1 := va_K.moved hvm.symm hK1
  obtain ⟨hP, hD⟩ := va_join (wr := [(d, .inr (1, [.ref h, .ref y, .ref q_1, .int 0, .int 0, .ref q_3, .null, .int 0])), (q_1, .inl (k_2, 40, .inr (.inr (.inr (.inr fa23))))), (q_3, .inl (k_4, 3020, .inl (fun _ => 0)))]) (w1 := [(q_270, .inr (2, [.int 0, .int 0, .int 0, .ref q3_272, .int 0, .ref q5_273, .int 0, .int 0, .int 0, .int 0, .ref q10_274, .ref q11_275, .ref q12_276, .ref q13_277, .ref q14_278, .ref q15_279, .int 0, .int 0, .int 0, .int 0, .int 0, .int 0]))]) hP hD [3] [0, 1, 2] rfl rfl (by decide) (by decide) hk1 hFc hP1 hD1
  generalize H1 = H at hP hS ⊢
  have hP : va_P (dC, dI) vwCl [(d, .inr (1, [.ref h, .ref y, .ref q_1, .int 0, .int 0, .ref q_3, .null, .int 0])), (q_1, .inl (k_2, 40, .inr (.inr (.inr (.inr fa23))))), (q_3, .inl (k_4, 3020, .inl (fun _ => 0))), (q_270, .inr (2, [.int 0, .int 0, .int 0, .ref q3_272, .int 0, .ref q5_273, .int 0, .int 0, .int 0, .int 0, .ref q10_274, .ref q11_275, .ref q12_276, .ref q13_277, .ref q14_278, .ref q15_279, .int 0, .int 0, .int 0, .int 0, .int 0, .int 0]))] H := hP
  have hD : va_D A [(d, .inr (1, [.ref h, .ref y, .ref q_1, .int 0, .int 0, .ref q_3, .null, .int 0])), (q_1, .inl (k_2, 40, .inr (.inr (.inr (.inr fa23))))), (q_3, .inl (k_4, 3020, .inl (fun _ => 0))), (q_270, .inr (2, [.int 0, .int 0, .int 0, .ref q3_272, .int 0, .ref q5_273, .int 0, .int 0, .int 0, .int 0, .ref q10_274, .ref q11_275, .ref q12_276, .ref q13_277, .ref q14_278, .ref q15_279, .int 0, .int 0, .int 0, .int 0, .int 0, .int 0]))] := hD
  have hK : va_K (dC, dI) vwCl [(k_2, .object RX2), (k_4, .int)] s := hK
  refine W.widen (k := 227) (n := 10110) (by omega) (by omega) ?_
  refine va_astq hx hb hK hP hD hS 1 0 3 2 rfl rfl rfl rfl (by unfold vp_in; decide) dX1_init_52 (fun H locs hP hD hS => ?_)
  have hP : va_P (dC, dI) vwCl [(d, .inr (1, [.ref h, .ref y, .ref q_1, .int 0, .int 0, .ref q_3, .null, .int 0])), (q_1, .inl (k_2, 40, .inr (.inr (.inr (.inr (va_up fa23 (24 : Int32).toNatClampNeg (some q_270))))))), (q_3, .inl (k_4, 3020, .inl (fun _ => 0))), (q_270, .inr (2, [.int 0, .int 0, .int 0, .ref q3_272, .int 0, .ref q5_273, .int 0, .int 0, .int 0, .int 0, .ref q10_274, .ref q11_275, .ref q12_276, .ref q13_277, .ref q14_278, .ref q15_279, .int 0, .int 0, .int 0, .int 0, .int 0, .int 0]))] H := hP
  have hD : va_D A [(d, .inr (1, [.ref h, .ref y, .ref q_1, .int 0, .int 0, .ref q_3, .null, .int 0])), (q_1, .inl (k_2, 40, .inr (.inr (.inr (.inr (va_up fa23 (24 : Int32).toNatClampNeg (some q_270))))))), (q_3, .inl (k_4, 3020, .inl (fun _ => 0))), (q_270, .inr (2, [.int 0, .int 0, .int 0, .ref q3_272, .int 0, .ref q5_273, .int 0, .int 0, .int 0, .int 0, .ref q10_274, .ref q11_275, .ref q12_276, .ref q13_277, .ref q14_278, .ref q15_279, .int 0, .int 0, .int 0, .int 0, .int 0, .int 0]))] := hD
  obtain ⟨fa24, efa24⟩ : ∃ z : Nat → Option Nat, z = va_up fa23 (24 : Int32).toNatClampNeg (some q_270) := ⟨_, rfl⟩
  rw [← efa24] at hP hD
  have hP := hP.sub (ws' := [(d, .inr (1, [.ref h, .ref y, .ref q_1, .int 0, .int 0, .ref q_3, .null, .int 0])), (q_1, .inl (k_2, 40, .inr (.inr (.inr (.inr fa24))))), (q_3, .inl (k_4, 3020, .inl (fun _ => 0)))]) [0, 1, 2] rfl
  have hD := hD.sub (ws' := [(d, .inr (1, [.ref h, .ref y, .ref q_1, .int 0, .int 0, .ref q_3, .null, .int 0])), (q_1, .inl (k_2, 40, .inr (.inr (.inr (.inr fa24))))), (q_3, .inl (k_4, 3020, .inl (fun _ => 0)))]) [0, 1, 2] (by decide) rfl
  have hK := hK.sub (tys' := [(k_2, .object RX2), (k_4, .int)]) [0, 1] rfl
  refine lv_iinc (v := 25) (lv' := [(3, .int 25), (0, .ref d), (1, .ref h), (2, .ref y)]) hx hb dX1_init_53 hl (k := 0) rfl (by decide) (by decide) rfl (fun ls hl => ?_)
  refine lv_goto (tgt := 34) hx hb dX1_init_56 (by decide) ?_
  refine lv_iload_n hx hb dX1_init_34 rfl (lv_at hl 0 rfl) ?_
  refine lv_bipush (v := 40) hx hb dX1_init_35 (by decide) ?_
  refine lv_icmp_ge (tgt := 59) hx hb dX1_init_37 (by decide) (fun c_280 => absurd c_280 (by decide)) (fun _ => ?_)
  refine lv_aload_n hx hb dX1_init_40 rfl (lv_at hl 1 rfl) ?_
  refine va_get (D := (dC, dI)) (ci := 1) (v := .ref q_1) (C := RX1) (T := TX1) (N := 8) hx hb hts in_c_decl_X1 hown hK hP 0 rfl rfl 2 (by decide) (hts (.fieldLink RX1 11 "OwnedPlaces$Declarations" "functions" "[LOwnedPlaces$Function;") (wm_c_decl 5 rfl)) (fun _ h9 => h9) rfl dX1_init_41 ?_
  refine lv_iload_n hx hb dX1_init_44 rfl (lv_at hl 0 rfl) ?_
  refine va_new (ci := 2) (fs := [.int 0, .int 0, .int 0, .null, .int 0, .null, .int 0, .int 0, .int 0, .int 0, .null, .null, .null, .null, .null, .null, .int 0, .int 0, .int 0, .int 0, .int 0, .int 0]) (C := RX2) (T := TX2) (N := 22) hx hb hts in_c_decl_X2 tyX2 tyX2_ok hown (hts (.classLink RX1 9 RX2) (wm_c_decl 4 rfl)) (hts (.instantiable RX2 22) (wm_c_decl 10 rfl)) (hts (.initialized RX2) (wm_c_decl 11 rfl)) hK hP hD hS hA rfl dv_X2 (show 227 + 1 ≤ 362 by omega) (show 10110 + 22 ≤ 14340 by omega) dX1_init_45 (fun q_281 H hP hD hS => ?_)
  have hP : va_P (dC, dI) vwCl [(d, .inr (1, [.ref h, .ref y, .ref q_1, .int 0, .int 0, .ref q_3, .null, .int 0])), (q_1, .inl (k_2, 40, .inr (.inr (.inr (.inr fa24))))), (q_3, .inl (k_4, 3020, .inl (fun _ => 0))), (q_281, .inr (2, [.int 0, .int 0, .int 0, .null, .int 0, .null, .int 0, .int 0, .int 0, .int 0, .null, .null, .null, .null, .null, .null, .int 0, .int 0, .int 0, .int 0, .int 0, .int 0]))] H := hP
  have hD : va_D A [(d, .inr (1, [.ref h, .ref y, .ref q_1, .int 0, .int 0, .ref q_3, .null, .int 0])), (q_1, .inl (k_2, 40, .inr (.inr (.inr (.inr fa24))))), (q_3, .inl (k_4, 3020, .inl (fun _ => 0))), (q_281, .inr (2, [.int 0, .int 0, .int 0, .null, .int 0, .null, .int 0, .int 0, .int 0, .int 0, .null, .null, .null, .null, .null, .null, .int 0, .int 0, .int 0, .int 0, .int 0, .int 0]))] := hD
  refine W.widen (k := 228) (n := 10132) (by omega) (by omega) ?_
  refine lv_dup hx hb dX1_init_48 rfl ?_
  have hPc := hP.sub (ws' := [(q_281, .inr (2, [.int 0, .int 0, .int 0, .null, .int 0, .null, .int 0, .int 0, .int 0, .int 0, .null, .null, .null, .null, .null, .null, .int 0, .int 0, .int 0, .int 0, .int 0, .int 0]))]) [3] rfl
  have hDc := hD.sub (ws' := [(q_281, .inr (2, [.int 0, .int 0, .int 0, .null, .int 0, .null, .int 0, .int 0, .int 0, .int 0, .null, .null, .null, .null, .null, .null, .int 0, .int 0, .int 0, .int 0, .int 0, .int 0]))]) [3] (by decide) rfl
  have hKc := hK.sub (tys' := []) [] rfl
  have hFc := va_free (wc := [(q_281, .inr (2, [.int 0, .int 0, .int 0, .null, .int 0, .null, .int 0, .int 0, .int 0, .int 0, .null, .null, .null, .null, .null, .null, .int 0, .int 0, .int 0, .int 0, .int 0, .int 0]))]) hD hS hA [3] rfl
  refine va_callv (va_runIN (As := []) (rest := [.ref q_281, .int 25, .ref q_1]) ⟨hx, hb, hml, hown, hts⟩ (c_function l dC dI q_281 H.size) ⟨va_cnB 0 hts g_c_decl_c_function_49 rfl rfl rfl hpre0 (hts (.initialized RX2) (wm_c_decl 11 rfl)) (by decide +kernel) ⟨Nat.le_of_ble_eq_true rfl, Nat.le_of_ble_eq_true rfl⟩, rfl, (hts (.instanceMethod yX2_init) (wm_c_decl 23 rfl))⟩ ⟨fun a U g mk q => by obtain ⟨q0, q1, qP, qK, qD⟩ := q; exact ⟨q0, q1, qP, va_K.moved (u := U) (U := U.calling g mk a) (Vm.Alike.refl U.vm) qK, qD⟩, fun U hU hW => ⟨rfl, by rw [hU], by rw [hU]; exact hPc, va_K.moved hW.alike hKc, hDc.weaken (fun _ _ _ _ => trivial)⟩⟩ rfl rfl hl.1 rfl (lv_room (Nat.le_of_ble_eq_true rfl)) dX1_init_49 ⟨(show 228 + 8 ≤ 362 by omega), (show 10132 + 260 ≤ 14340 by omega)⟩) hS (fun q _ h => hFc q h) hFc (fun u tS H1 locs ht hvm hw hB hz1 hk1 hS => ?_)
  obtain ⟨q3_283, q5_284, q10_285, q11_286, q12_287, q13_288, q14_289, q15_290, hP1, hK1, hD1⟩ := hB
  rw [ht] at hP1
  have hK1 := va_K.moved hvm.symm hK1
  obtain ⟨hP, hD⟩ := va_join (wr := [(d, .inr (1, [.ref h, .ref y, .ref q_1, .int 0, .int 0, .ref q_3, .null, .int 0])), (q_1, .inl (k_2, 40, .inr (.inr (.inr (.inr fa24))))), (q_3, .inl (k_4, 3020, .inl (fun _ => 0)))]) (w1 := [(q_281, .inr (2, [.int 0, .int 0, .int 0, .ref q3_283, .int 0, .ref q5_284, .int 0, .int 0, .int 0, .int 0, .ref q10_285, .ref q11_286, .ref q12_287, .ref q13_288, .ref q14_289, .ref q15_290, .int 0, .int 0, .int 0, .int 0, .int 0, .int 0]))]) hP hD [3] [0, 1, 2] rfl rfl (by decide) (by decide) hk1 hFc hP1 hD1
  generalize H1 = H at hP hS ⊢
  have hP : va_P (dC, dI) vwCl [(d, .inr (1, [.ref h, .ref y, .ref q_1, .int 0, .int 0, .ref q_3, .null, .int 0])), (q_1, .inl (k_2, 40, .inr (.inr (.inr (.inr fa24))))), (q_3, .inl (k_4, 3020, .inl (fun _ => 0))), (q_281, .inr (2, [.int 0, .int 0, .int 0, .ref q3_283, .int 0, .ref q5_284, .int 0, .int 0, .int 0, .int 0, .ref q10_285, .ref q11_286, .ref q12_287, .ref q13_288, .ref q14_289, .ref q15_290, .int 0, .int 0, .int 0, .int 0, .int 0, .int 0]))] H := hP
  have hD : va_D A [(d, .inr (1, [.ref h, .ref y, .ref q_1, .int 0, .int 0, .ref q_3, .null, .int 0])), (q_1, .inl (k_2, 40, .inr (.inr (.inr (.inr fa24))))), (q_3, .inl (k_4, 3020, .inl (fun _ => 0))), (q_281, .inr (2, [.int 0, .int 0, .int 0, .ref q3_283, .int 0, .ref q5_284, .int 0, .int 0, .int 0, .int 0, .ref q10_285, .ref q11_286, .ref q12_287, .ref q13_288, .ref q14_289, .ref q15_290, .int 0, .int 0, .int 0, .int 0, .int 0, .int 0]))] := hD
  have hK : va_K (dC, dI) vwCl [(k_2, .object RX2), (k_4, .int)] s := hK
  refine W.widen (k := 236) (n := 10392) (by omega) (by omega) ?_
  refine va_astq hx hb hK hP hD hS 1 0 3 2 rfl rfl rfl rfl (by unfold vp_in; decide) dX1_init_52 (fun H locs hP hD hS => ?_)
  have hP : va_P (dC, dI) vwCl [(d, .inr (1, [.ref h, .ref y, .ref q_1, .int 0, .int 0, .ref q_3, .null, .int 0])), (q_1, .inl (k_2, 40, .inr (.inr (.inr (.inr (va_up fa24 (25 : Int32).toNatClampNeg (some q_281))))))), (q_3, .inl (k_4, 3020, .inl (fun _ => 0))), (q_281, .inr (2, [.int 0, .int 0, .int 0, .ref q3_283, .int 0, .ref q5_284, .int 0, .int 0, .int 0, .int 0, .ref q10_285, .ref q11_286, .ref q12_287, .ref q13_288, .ref q14_289, .ref q15_290, .int 0, .int 0, .int 0, .int 0, .int 0, .int 0]))] H := hP
  have hD : va_D A [(d, .inr (1, [.ref h, .ref y, .ref q_1, .int 0, .int 0, .ref q_3, .null, .int 0])), (q_1, .inl (k_2, 40, .inr (.inr (.inr (.inr (va_up fa24 (25 : Int32).toNatClampNeg (some q_281))))))), (q_3, .inl (k_4, 3020, .inl (fun _ => 0))), (q_281, .inr (2, [.int 0, .int 0, .int 0, .ref q3_283, .int 0, .ref q5_284, .int 0, .int 0, .int 0, .int 0, .ref q10_285, .ref q11_286, .ref q12_287, .ref q13_288, .ref q14_289, .ref q15_290, .int 0, .int 0, .int 0, .int 0, .int 0, .int 0]))] := hD
  obtain ⟨fa25, efa25⟩ : ∃ z : Nat → Option Nat, z = va_up fa24 (25 : Int32).toNatClampNeg (some q_281) := ⟨_, rfl⟩
  rw [← efa25] at hP hD
  have hP := hP.sub (ws' := [(d, .inr (1, [.ref h, .ref y, .ref q_1, .int 0, .int 0, .ref q_3, .null, .int 0])), (q_1, .inl (k_2, 40, .inr (.inr (.inr (.inr fa25))))), (q_3, .inl (k_4, 3020, .inl (fun _ => 0)))]) [0, 1, 2] rfl
  have hD := hD.sub (ws' := [(d, .inr (1, [.ref h, .ref y, .ref q_1, .int 0, .int 0, .ref q_3, .null, .int 0])), (q_1, .inl (k_2, 40, .inr (.inr (.inr (.inr fa25))))), (q_3, .inl (k_4, 3020, .inl (fun _ => 0)))]) [0, 1, 2] (by decide) rfl
  have hK := hK.sub (tys' := [(k_2, .object RX2), (k_4, .int)]) [0, 1] rfl
  refine lv_iinc (v := 26) (lv' := [(3, .int 26), (0, .ref d), (1, .ref h), (2, .ref y)]) hx hb dX1_init_53 hl (k := 0) rfl (by decide) (by decide) rfl (fun ls hl => ?_)
  refine lv_goto (tgt := 34) hx hb dX1_init_56 (by decide) ?_
  refine lv_iload_n hx hb dX1_init_34 rfl (lv_at hl 0 rfl) ?_
  refine lv_bipush (v := 40) hx hb dX1_init_35 (by decide) ?_
  refine lv_icmp_ge (tgt := 59) hx hb dX1_init_37 (by decide) (fun c_291 => absurd c_291 (by decide)) (fun _ => ?_)
  refine lv_aload_n hx hb dX1_init_40 rfl (lv_at hl 1 rfl) ?_
  refine va_get (D := (dC, dI)) (ci := 1) (v := .ref q_1) (C := RX1) (T := TX1) (N := 8) hx hb hts in_c_decl_X1 hown hK hP 0 rfl rfl 2 (by decide) (hts (.fieldLink RX1 11 "OwnedPlaces$Declarations" "functions" "[LOwnedPlaces$Function;") (wm_c_decl 5 rfl)) (fun _ h9 => h9) rfl dX1_init_41 ?_
  refine lv_iload_n hx hb dX1_init_44 rfl (lv_at hl 0 rfl) ?_
  refine va_new (ci := 2) (fs := [.int 0, .int 0, .int 0, .null, .int 0, .null, .int 0, .int 0, .int 0, .int 0, .null, .null, .null, .null, .null, .null, .int 0, .int 0, .int 0, .int 0, .int 0, .int 0]) (C := RX2) (T := TX2) (N := 22) hx hb hts in_c_decl_X2 tyX2 tyX2_ok hown (hts (.classLink RX1 9 RX2) (wm_c_decl 4 rfl)) (hts (.instantiable RX2 22) (wm_c_decl 10 rfl)) (hts (.initialized RX2) (wm_c_decl 11 rfl)) hK hP hD hS hA rfl dv_X2 (show 236 + 1 ≤ 362 by omega) (show 10392 + 22 ≤ 14340 by omega) dX1_init_45 (fun q_292 H hP hD hS => ?_)
  have hP : va_P (dC, dI) vwCl [(d, .inr (1, [.ref h, .ref y, .ref q_1, .int 0, .int 0, .ref q_3, .null, .int 0])), (q_1, .inl (k_2, 40, .inr (.inr (.inr (.inr fa25))))), (q_3, .inl (k_4, 3020, .inl (fun _ => 0))), (q_292, .inr (2, [.int 0, .int 0, .int 0, .null, .int 0, .null, .int 0, .int 0, .int 0, .int 0, .null, .null, .null, .null, .null, .null, .int 0, .int 0, .int 0, .int 0, .int 0, .int 0]))] H := hP
  have hD : va_D A [(d, .inr (1, [.ref h, .ref y, .ref q_1, .int 0, .int 0, .ref q_3, .null, .int 0])), (q_1, .inl (k_2, 40, .inr (.inr (.inr (.inr fa25))))), (q_3, .inl (k_4, 3020, .inl (fun _ => 0))), (q_292, .inr (2, [.int 0, .int 0, .int 0, .null, .int 0, .null, .int 0, .int 0, .int 0, .int 0, .null, .null, .null, .null, .null, .null, .int 0, .int 0, .int 0, .int 0, .int 0, .int 0]))] := hD
  refine W.widen (k := 237) (n := 10414) (by omega) (by omega) ?_
  refine lv_dup hx hb dX1_init_48 rfl ?_
  have hPc := hP.sub (ws' := [(q_292, .inr (2, [.int 0, .int 0, .int 0, .null, .int 0, .null, .int 0, .int 0, .int 0, .int 0, .null, .null, .null, .null, .null, .null, .int 0, .int 0, .int 0, .int 0, .int 0, .int 0]))]) [3] rfl
  have hDc := hD.sub (ws' := [(q_292, .inr (2, [.int 0, .int 0, .int 0, .null, .int 0, .null, .int 0, .int 0, .int 0, .int 0, .null, .null, .null, .null, .null, .null, .int 0, .int 0, .int 0, .int 0, .int 0, .int 0]))]) [3] (by decide) rfl
  have hKc := hK.sub (tys' := []) [] rfl
  have hFc := va_free (wc := [(q_292, .inr (2, [.int 0, .int 0, .int 0, .null, .int 0, .null, .int 0, .int 0, .int 0, .int 0, .null, .null, .null, .null, .null, .null, .int 0, .int 0, .int 0, .int 0, .int 0, .int 0]))]) hD hS hA [3] rfl
  refine va_callv (va_runIN (As := []) (rest := [.ref q_292, .int 26, .ref q_1]) ⟨hx, hb, hml, hown, hts⟩ (c_function l dC dI q_292 H.size) ⟨va_cnB 0 hts g_c_decl_c_function_49 rfl rfl rfl hpre0 (hts (.initialized RX2) (wm_c_decl 11 rfl)) (by decide +kernel) ⟨Nat.le_of_ble_eq_true rfl, Nat.le_of_ble_eq_true rfl⟩, rfl, (hts (.instanceMethod yX2_init) (wm_c_decl 23 rfl))⟩ ⟨fun a U g mk q => by obtain ⟨q0, q1, qP, qK, qD⟩ := q; exact ⟨q0, q1, qP, va_K.moved (u := U) (U := U.calling g mk a) (Vm.Alike.refl U.vm) qK, qD⟩, fun U hU hW => ⟨rfl, by rw [hU], by rw [hU]; exact hPc, va_K.moved hW.alike hKc, hDc.weaken (fun _ _ _ _ => trivial)⟩⟩ rfl rfl hl.1 rfl (lv_room (Nat.le_of_ble_eq_true rfl)) dX1_init_49 ⟨(show 237 + 8 ≤ 362 by omega), (show 10414 + 260 ≤ 14340 by omega)⟩) hS (fun q _ h => hFc q h) hFc (fun u tS H1 locs ht hvm hw hB hz1 hk1 hS => ?_)
  obtain ⟨q3_294, q5_295, q10_296, q11_297, q12_298, q13_299, q14_300, q15_301, hP1, hK1, hD1⟩ := hB
  rw [ht] at hP1
  have hK1 := va_K.moved hvm.symm hK1
  obtain ⟨hP, hD⟩ := va_join (wr := [(d, .inr (1, [.ref h, .ref y, .ref q_1, .int 0, .int 0, .ref q_3, .null, .int 0])), (q_1, .inl (k_2, 40, .inr (.inr (.inr (.inr fa25))))), (q_3, .inl (k_4, 3020, .inl (fun _ => 0)))]) (w1 := [(q_292, .inr (2, [.int 0, .int 0, .int 0, .ref q3_294, .int 0, .ref q5_295, .int 0, .int 0, .int 0, .int 0, .ref q10_296, .ref q11_297, .ref q12_298, .ref q13_299, .ref q14_300, .ref q15_301, .int 0, .int 0, .int 0, .int 0, .int 0, .int 0]))]) hP hD [3] [0, 1, 2] rfl rfl (by decide) (by decide) hk1 hFc hP1 hD1
  generalize H1 = H at hP hS ⊢
  have hP : va_P (dC, dI) vwCl [(d, .inr (1, [.ref h, .ref y, .ref q_1, .int 0, .int 0, .ref q_3, .null, .int 0])), (q_1, .inl (k_2, 40, .inr (.inr (.inr (.inr fa25))))), (q_3, .inl (k_4, 3020, .inl (fun _ => 0))), (q_292, .inr (2, [.int 0, .int 0, .int 0, .ref q3_294, .int 0, .ref q5_295, .int 0, .int 0, .int 0, .int 0, .ref q10_296, .ref q11_297, .ref q12_298, .ref q13_299, .ref q14_300, .ref q15_301, .int 0, .int 0, .int 0, .int 0, .int 0, .int 0]))] H := hP
  have hD : va_D A [(d, .inr (1, [.ref h, .ref y, .ref q_1, .int 0, .int 0, .ref q_3, .null, .int 0])), (q_1, .inl (k_2, 40, .inr (.inr (.inr (.inr fa25))))), (q_3, .inl (k_4, 3020, .inl (fun _ => 0))), (q_292, .inr (2, [.int 0, .int 0, .int 0, .ref q3_294, .int 0, .ref q5_295, .int 0, .int 0, .int 0, .int 0, .ref q10_296, .ref q11_297, .ref q12_298, .ref q13_299, .ref q14_300, .ref q15_301, .int 0, .int 0, .int 0, .int 0, .int 0, .int 0]))] := hD
  have hK : va_K (dC, dI) vwCl [(k_2, .object RX2), (k_4, .int)] s := hK
  refine W.widen (k := 245) (n := 10674) (by omega) (by omega) ?_
  refine va_astq hx hb hK hP hD hS 1 0 3 2 rfl rfl rfl rfl (by unfold vp_in; decide) dX1_init_52 (fun H locs hP hD hS => ?_)
  have hP : va_P (dC, dI) vwCl [(d, .inr (1, [.ref h, .ref y, .ref q_1, .int 0, .int 0, .ref q_3, .null, .int 0])), (q_1, .inl (k_2, 40, .inr (.inr (.inr (.inr (va_up fa25 (26 : Int32).toNatClampNeg (some q_292))))))), (q_3, .inl (k_4, 3020, .inl (fun _ => 0))), (q_292, .inr (2, [.int 0, .int 0, .int 0, .ref q3_294, .int 0, .ref q5_295, .int 0, .int 0, .int 0, .int 0, .ref q10_296, .ref q11_297, .ref q12_298, .ref q13_299, .ref q14_300, .ref q15_301, .int 0, .int 0, .int 0, .int 0, .int 0, .int 0]))] H := hP
  have hD : va_D A [(d, .inr (1, [.ref h, .ref y, .ref q_1, .int 0, .int 0, .ref q_3, .null, .int 0])), (q_1, .inl (k_2, 40, .inr (.inr (.inr (.inr (va_up fa25 (26 : Int32).toNatClampNeg (some q_292))))))), (q_3, .inl (k_4, 3020, .inl (fun _ => 0))), (q_292, .inr (2, [.int 0, .int 0, .int 0, .ref q3_294, .int 0, .ref q5_295, .int 0, .int 0, .int 0, .int 0, .ref q10_296, .ref q11_297, .ref q12_298, .ref q13_299, .ref q14_300, .ref q15_301, .int 0, .int 0, .int 0, .int 0, .int 0, .int 0]))] := hD
  obtain ⟨fa26, efa26⟩ : ∃ z : Nat → Option Nat, z = va_up fa25 (26 : Int32).toNatClampNeg (some q_292) := ⟨_, rfl⟩
  rw [← efa26] at hP hD
  have hP := hP.sub (ws' := [(d, .inr (1, [.ref h, .ref y, .ref q_1, .int 0, .int 0, .ref q_3, .null, .int 0])), (q_1, .inl (k_2, 40, .inr (.inr (.inr (.inr fa26))))), (q_3, .inl (k_4, 3020, .inl (fun _ => 0)))]) [0, 1, 2] rfl
  have hD := hD.sub (ws' := [(d, .inr (1, [.ref h, .ref y, .ref q_1, .int 0, .int 0, .ref q_3, .null, .int 0])), (q_1, .inl (k_2, 40, .inr (.inr (.inr (.inr fa26))))), (q_3, .inl (k_4, 3020, .inl (fun _ => 0)))]) [0, 1, 2] (by decide) rfl
  have hK := hK.sub (tys' := [(k_2, .object RX2), (k_4, .int)]) [0, 1] rfl
  refine lv_iinc (v := 27) (lv' := [(3, .int 27), (0, .ref d), (1, .ref h), (2, .ref y)]) hx hb dX1_init_53 hl (k := 0) rfl (by decide) (by decide) rfl (fun ls hl => ?_)
  refine lv_goto (tgt := 34) hx hb dX1_init_56 (by decide) ?_
  refine lv_iload_n hx hb dX1_init_34 rfl (lv_at hl 0 rfl) ?_
  refine lv_bipush (v := 40) hx hb dX1_init_35 (by decide) ?_
  refine lv_icmp_ge (tgt := 59) hx hb dX1_init_37 (by decide) (fun c_302 => absurd c_302 (by decide)) (fun _ => ?_)
  refine lv_aload_n hx hb dX1_init_40 rfl (lv_at hl 1 rfl) ?_
  refine va_get (D := (dC, dI)) (ci := 1) (v := .ref q_1) (C := RX1) (T := TX1) (N := 8) hx hb hts in_c_decl_X1 hown hK hP 0 rfl rfl 2 (by decide) (hts (.fieldLink RX1 11 "OwnedPlaces$Declarations" "functions" "[LOwnedPlaces$Function;") (wm_c_decl 5 rfl)) (fun _ h9 => h9) rfl dX1_init_41 ?_
  refine lv_iload_n hx hb dX1_init_44 rfl (lv_at hl 0 rfl) ?_
  refine va_new (ci := 2) (fs := [.int 0, .int 0, .int 0, .null, .int 0, .null, .int 0, .int 0, .int 0, .int 0, .null, .null, .null, .null, .null, .null, .int 0, .int 0, .int 0, .int 0, .int 0, .int 0]) (C := RX2) (T := TX2) (N := 22) hx hb hts in_c_decl_X2 tyX2 tyX2_ok hown (hts (.classLink RX1 9 RX2) (wm_c_decl 4 rfl)) (hts (.instantiable RX2 22) (wm_c_decl 10 rfl)) (hts (.initialized RX2) (wm_c_decl 11 rfl)) hK hP hD hS hA rfl dv_X2 (show 245 + 1 ≤ 362 by omega) (show 10674 + 22 ≤ 14340 by omega) dX1_init_45 (fun q_303 H hP hD hS => ?_)
  have hP : va_P (dC, dI) vwCl [(d, .inr (1, [.ref h, .ref y, .ref q_1, .int 0, .int 0, .ref q_3, .null, .int 0])), (q_1, .inl (k_2, 40, .inr (.inr (.inr (.inr fa26))))), (q_3, .inl (k_4, 3020, .inl (fun _ => 0))), (q_303, .inr (2, [.int 0, .int 0, .int 0, .null, .int 0, .null, .int 0, .int 0, .int 0, .int 0, .null, .null, .null, .null, .null, .null, .int 0, .int 0, .int 0, .int 0, .int 0, .int 0]))] H := hP
  have hD : va_D A [(d, .inr (1, [.ref h, .ref y, .ref q_1, .int 0, .int 0, .ref q_3, .null, .int 0])), (q_1, .inl (k_2, 40, .inr (.inr (.inr (.inr fa26))))), (q_3, .inl (k_4, 3020, .inl (fun _ => 0))), (q_303, .inr (2, [.int 0, .int 0, .int 0, .null, .int 0, .null, .int 0, .int 0, .int 0, .int 0, .null, .null, .null, .null, .null, .null, .int 0, .int 0, .int 0, .int 0, .int 0, .int 0]))] := hD
  refine W.widen (k := 246) (n := 10696) (by omega) (by omega) ?_
  refine lv_dup hx hb dX1_init_48 rfl ?_
  have hPc := hP.sub (ws' := [(q_303, .inr (2, [.int 0, .int 0, .int 0, .null, .int 0, .null, .int 0, .int 0, .int 0, .int 0, .null, .null, .null, .null, .null, .null, .int 0, .int 0, .int 0, .int 0, .int 0, .int 0]))]) [3] rfl
  have hDc := hD.sub (ws' := [(q_303, .inr (2, [.int 0, .int 0, .int 0, .null, .int 0, .null, .int 0, .int 0, .int 0, .int 0, .null, .null, .null, .null, .null, .null, .int 0, .int 0, .int 0, .int 0, .int 0, .int 0]))]) [3] (by decide) rfl
  have hKc := hK.sub (tys' := []) [] rfl
  have hFc := va_free (wc := [(q_303, .inr (2, [.int 0, .int 0, .int 0, .null, .int 0, .null, .int 0, .int 0, .int 0, .int 0, .null, .null, .null, .null, .null, .null, .int 0, .int 0, .int 0, .int 0, .int 0, .int 0]))]) hD hS hA [3] rfl
  refine va_callv (va_runIN (As := []) (rest := [.ref q_303, .int 27, .ref q_1]) ⟨hx, hb, hml, hown, hts⟩ (c_function l dC dI q_303 H.size) ⟨va_cnB 0 hts g_c_decl_c_function_49 rfl rfl rfl hpre0 (hts (.initialized RX2) (wm_c_decl 11 rfl)) (by decide +kernel) ⟨Nat.le_of_ble_eq_true rfl, Nat.le_of_ble_eq_true rfl⟩, rfl, (hts (.instanceMethod yX2_init) (wm_c_decl 23 rfl))⟩ ⟨fun a U g mk q => by obtain ⟨q0, q1, qP, qK, qD⟩ := q; exact ⟨q0, q1, qP, va_K.moved (u := U) (U := U.calling g mk a) (Vm.Alike.refl U.vm) qK, qD⟩, fun U hU hW => ⟨rfl, by rw [hU], by rw [hU]; exact hPc, va_K.moved hW.alike hKc, hDc.weaken (fun _ _ _ _ => trivial)⟩⟩ rfl rfl hl.1 rfl (lv_room (Nat.le_of_ble_eq_true rfl)) dX1_init_49 ⟨(show 246 + 8 ≤ 362 by omega), (show 10696 + 260 ≤ 14340 by omega)⟩) hS (fun q _ h => hFc q h) hFc (fun u tS H1 locs ht hvm hw hB hz1 hk1 hS => ?_)
  obtain ⟨q3_305, q5_306, q10_307, q11_308, q12_309, q13_310, q14_311, q15_312, hP1, hK1, hD1⟩ := hB
  rw [ht] at hP1
  have hK1 := va_K.moved hvm.symm hK1
  obtain ⟨hP, hD⟩ := va_join (wr := [(d, .inr (1, [.ref h, .ref y, .ref q_1, .int 0, .int 0, .ref q_3, .null, .int 0])), (q_1, .inl (k_2, 40, .inr (.inr (.inr (.inr fa26))))), (q_3, .inl (k_4, 3020, .inl (fun _ => 0)))]) (w1 := [(q_303, .inr (2, [.int 0, .int 0, .int 0, .ref q3_305, .int 0, .ref q5_306, .int 0, .int 0, .int 0, .int 0, .ref q10_307, .ref q11_308, .ref q12_309, .ref q13_310, .ref q14_311, .ref q15_312, .int 0, .int 0, .int 0, .int 0, .int 0, .int 0]))]) hP hD [3] [0, 1, 2] rfl rfl (by decide) (by decide) hk1 hFc hP1 hD1
  generalize H1 = H at hP hS ⊢
  have hP : va_P (dC, dI) vwCl [(d, .inr (1, [.ref h, .ref y, .ref q_1, .int 0, .int 0, .ref q_3, .null, .int 0])), (q_1, .inl (k_2, 40, .inr (.inr (.inr (.inr fa26))))), (q_3, .inl (k_4, 3020, .inl (fun _ => 0))), (q_303, .inr (2, [.int 0, .int 0, .int 0, .ref q3_305, .int 0, .ref q5_306, .int 0, .int 0, .int 0, .int 0, .ref q10_307, .ref q11_308, .ref q12_309, .ref q13_310, .ref q14_311, .ref q15_312, .int 0, .int 0, .int 0, .int 0, .int 0, .int 0]))] H := hP
  have hD : va_D A [(d, .inr (1, [.ref h, .ref y, .ref q_1, .int 0, .int 0, .ref q_3, .null, .int 0])), (q_1, .inl (k_2, 40, .inr (.inr (.inr (.inr fa26))))), (q_3, .inl (k_4, 3020, .inl (fun _ => 0))), (q_303, .inr (2, [.int 0, .int 0, .int 0, .ref q3_305, .int 0, .ref q5_306, .int 0, .int 0, .int 0, .int 0, .ref q10_307, .ref q11_308, .ref q12_309, .ref q13_310, .ref q14_311, .ref q15_312, .int 0, .int 0, .int 0, .int 0, .int 0, .int 0]))] := hD
  have hK : va_K (dC, dI) vwCl [(k_2, .object RX2), (k_4, .int)] s := hK
  refine W.widen (k := 254) (n := 10956) (by omega) (by omega) ?_
  refine va_astq hx hb hK hP hD hS 1 0 3 2 rfl rfl rfl rfl (by unfold vp_in; decide) dX1_init_52 (fun H locs hP hD hS => ?_)
  have hP : va_P (dC, dI) vwCl [(d, .inr (1, [.ref h, .ref y, .ref q_1, .int 0, .int 0, .ref q_3, .null, .int 0])), (q_1, .inl (k_2, 40, .inr (.inr (.inr (.inr (va_up fa26 (27 : Int32).toNatClampNeg (some q_303))))))), (q_3, .inl (k_4, 3020, .inl (fun _ => 0))), (q_303, .inr (2, [.int 0, .int 0, .int 0, .ref q3_305, .int 0, .ref q5_306, .int 0, .int 0, .int 0, .int 0, .ref q10_307, .ref q11_308, .ref q12_309, .ref q13_310, .ref q14_311, .ref q15_312, .int 0, .int 0, .int 0, .int 0, .int 0, .int 0]))] H := hP
  have hD : va_D A [(d, .inr (1, [.ref h, .ref y, .ref q_1, .int 0, .int 0, .ref q_3, .null, .int 0])), (q_1, .inl (k_2, 40, .inr (.inr (.inr (.inr (va_up fa26 (27 : Int32).toNatClampNeg (some q_303))))))), (q_3, .inl (k_4, 3020, .inl (fun _ => 0))), (q_303, .inr (2, [.int 0, .int 0, .int 0, .ref q3_305, .int 0, .ref q5_306, .int 0, .int 0, .int 0, .int 0, .ref q10_307, .ref q11_308, .ref q12_309, .ref q13_310, .ref q14_311, .ref q15_312, .int 0, .int 0, .int 0, .int 0, .int 0, .int 0]))] := hD
  obtain ⟨fa27, efa27⟩ : ∃ z : Nat → Option Nat, z = va_up fa26 (27 : Int32).toNatClampNeg (some q_303) := ⟨_, rfl⟩
  rw [← efa27] at hP hD
  have hP := hP.sub (ws' := [(d, .inr (1, [.ref h, .ref y, .ref q_1, .int 0, .int 0, .ref q_3, .null, .int 0])), (q_1, .inl (k_2, 40, .inr (.inr (.inr (.inr fa27))))), (q_3, .inl (k_4, 3020, .inl (fun _ => 0)))]) [0, 1, 2] rfl
  have hD := hD.sub (ws' := [(d, .inr (1, [.ref h, .ref y, .ref q_1, .int 0, .int 0, .ref q_3, .null, .int 0])), (q_1, .inl (k_2, 40, .inr (.inr (.inr (.inr fa27))))), (q_3, .inl (k_4, 3020, .inl (fun _ => 0)))]) [0, 1, 2] (by decide) rfl
  have hK := hK.sub (tys' := [(k_2, .object RX2), (k_4, .int)]) [0, 1] rfl
  refine lv_iinc (v := 28) (lv' := [(3, .int 28), (0, .ref d), (1, .ref h), (2, .ref y)]) hx hb dX1_init_53 hl (k := 0) rfl (by decide) (by decide) rfl (fun ls hl => ?_)
  refine lv_goto (tgt := 34) hx hb dX1_init_56 (by decide) ?_
  refine lv_iload_n hx hb dX1_init_34 rfl (lv_at hl 0 rfl) ?_
  refine lv_bipush (v := 40) hx hb dX1_init_35 (by decide) ?_
  refine lv_icmp_ge (tgt := 59) hx hb dX1_init_37 (by decide) (fun c_313 => absurd c_313 (by decide)) (fun _ => ?_)
  refine lv_aload_n hx hb dX1_init_40 rfl (lv_at hl 1 rfl) ?_
  refine va_get (D := (dC, dI)) (ci := 1) (v := .ref q_1) (C := RX1) (T := TX1) (N := 8) hx hb hts in_c_decl_X1 hown hK hP 0 rfl rfl 2 (by decide) (hts (.fieldLink RX1 11 "OwnedPlaces$Declarations" "functions" "[LOwnedPlaces$Function;") (wm_c_decl 5 rfl)) (fun _ h9 => h9) rfl dX1_init_41 ?_
  refine lv_iload_n hx hb dX1_init_44 rfl (lv_at hl 0 rfl) ?_
  refine va_new (ci := 2) (fs := [.int 0, .int 0, .int 0, .null, .int 0, .null, .int 0, .int 0, .int 0, .int 0, .null, .null, .null, .null, .null, .null, .int 0, .int 0, .int 0, .int 0, .int 0, .int 0]) (C := RX2) (T := TX2) (N := 22) hx hb hts in_c_decl_X2 tyX2 tyX2_ok hown (hts (.classLink RX1 9 RX2) (wm_c_decl 4 rfl)) (hts (.instantiable RX2 22) (wm_c_decl 10 rfl)) (hts (.initialized RX2) (wm_c_decl 11 rfl)) hK hP hD hS hA rfl dv_X2 (show 254 + 1 ≤ 362 by omega) (show 10956 + 22 ≤ 14340 by omega) dX1_init_45 (fun q_314 H hP hD hS => ?_)
  have hP : va_P (dC, dI) vwCl [(d, .inr (1, [.ref h, .ref y, .ref q_1, .int 0, .int 0, .ref q_3, .null, .int 0])), (q_1, .inl (k_2, 40, .inr (.inr (.inr (.inr fa27))))), (q_3, .inl (k_4, 3020, .inl (fun _ => 0))), (q_314, .inr (2, [.int 0, .int 0, .int 0, .null, .int 0, .null, .int 0, .int 0, .int 0, .int 0, .null, .null, .null, .null, .null, .null, .int 0, .int 0, .int 0, .int 0, .int 0, .int 0]))] H := hP
  have hD : va_D A [(d, .inr (1, [.ref h, .ref y, .ref q_1, .int 0, .int 0, .ref q_3, .null, .int 0])), (q_1, .inl (k_2, 40, .inr (.inr (.inr (.inr fa27))))), (q_3, .inl (k_4, 3020, .inl (fun _ => 0))), (q_314, .inr (2, [.int 0, .int 0, .int 0, .null, .int 0, .null, .int 0, .int 0, .int 0, .int 0, .null, .null, .null, .null, .null, .null, .int 0, .int 0, .int 0, .int 0, .int 0, .int 0]))] := hD
  refine W.widen (k := 255) (n := 10978) (by omega) (by omega) ?_
  refine lv_dup hx hb dX1_init_48 rfl ?_
  have hPc := hP.sub (ws' := [(q_314, .inr (2, [.int 0, .int 0, .int 0, .null, .int 0, .null, .int 0, .int 0, .int 0, .int 0, .null, .null, .null, .null, .null, .null, .int 0, .int 0, .int 0, .int 0, .int 0, .int 0]))]) [3] rfl
  have hDc := hD.sub (ws' := [(q_314, .inr (2, [.int 0, .int 0, .int 0, .null, .int 0, .null, .int 0, .int 0, .int 0, .int 0, .null, .null, .null, .null, .null, .null, .int 0, .int 0, .int 0, .int 0, .int 0, .int 0]))]) [3] (by decide) rfl
  have hKc := hK.sub (tys' := []) [] rfl
  have hFc := va_free (wc := [(q_314, .inr (2, [.int 0, .int 0, .int 0, .null, .int 0, .null, .int 0, .int 0, .int 0, .int 0, .null, .null, .null, .null, .null, .null, .int 0, .int 0, .int 0, .int 0, .int 0, .int 0]))]) hD hS hA [3] rfl
  refine va_callv (va_runIN (As := []) (rest := [.ref q_314, .int 28, .ref q_1]) ⟨hx, hb, hml, hown, hts⟩ (c_function l dC dI q_314 H.size) ⟨va_cnB 0 hts g_c_decl_c_function_49 rfl rfl rfl hpre0 (hts (.initialized RX2) (wm_c_decl 11 rfl)) (by decide +kernel) ⟨Nat.le_of_ble_eq_true rfl, Nat.le_of_ble_eq_true rfl⟩, rfl, (hts (.instanceMethod yX2_init) (wm_c_decl 23 rfl))⟩ ⟨fun a U g mk q => by obtain ⟨q0, q1, qP, qK, qD⟩ := q; exact ⟨q0, q1, qP, va_K.moved (u := U) (U := U.calling g mk a) (Vm.Alike.refl U.vm) qK, qD⟩, fun U hU hW => ⟨rfl, by rw [hU], by rw [hU]; exact hPc, va_K.moved hW.alike hKc, hDc.weaken (fun _ _ _ _ => trivial)⟩⟩ rfl rfl hl.1 rfl (lv_room (Nat.le_of_ble_eq_true rfl)) dX1_init_49 ⟨(show 255 + 8 ≤ 362 by omega), (show 10978 + 260 ≤ 14340 by omega)⟩) hS (fun q _ h => hFc q h) hFc (fun u tS H1 locs ht hvm hw hB hz1 hk1 hS => ?_)
  obtain ⟨q3_316, q5_317, q10_318, q11_319, q12_320, q13_321, q14_322, q15_323, hP1, hK1, hD1⟩ := hB
  rw [ht] at hP1
  have hK1 := va_K.moved hvm.symm hK1
  obtain ⟨hP, hD⟩ := va_join (wr := [(d, .inr (1, [.ref h, .ref y, .ref q_1, .int 0, .int 0, .ref q_3, .null, .int 0])), (q_1, .inl (k_2, 40, .inr (.inr (.inr (.inr fa27))))), (q_3, .inl (k_4, 3020, .inl (fun _ => 0)))]) (w1 := [(q_314, .inr (2, [.int 0, .int 0, .int 0, .ref q3_316, .int 0, .ref q5_317, .int 0, .int 0, .int 0, .int 0, .ref q10_318, .ref q11_319, .ref q12_320, .ref q13_321, .ref q14_322, .ref q15_323, .int 0, .int 0, .int 0, .int 0, .int 0, .int 0]))]) hP hD [3] [0, 1, 2] rfl rfl (by decide) (by decide) hk1 hFc hP1 hD1
  generalize H1 = H at hP hS ⊢
  have hP : va_P (dC, dI) vwCl [(d, .inr (1, [.ref h, .ref y, .ref q_1, .int 0, .int 0, .ref q_3, .null, .int 0])), (q_1, .inl (k_2, 40, .inr (.inr (.inr (.inr fa27))))), (q_3, .inl (k_4, 3020, .inl (fun _ => 0))), (q_314, .inr (2, [.int 0, .int 0, .int 0, .ref q3_316, .int 0, .ref q5_317, .int 0, .int 0, .int 0, .int 0, .ref q10_318, .ref q11_319, .ref q12_320, .ref q13_321, .ref q14_322, .ref q15_323, .int 0, .int 0, .int 0, .int 0, .int 0, .int 0]))] H := hP
  have hD : va_D A [(d, .inr (1, [.ref h, .ref y, .ref q_1, .int 0, .int 0, .ref q_3, .null, .int 0])), (q_1, .inl (k_2, 40, .inr (.inr (.inr (.inr fa27))))), (q_3, .inl (k_4, 3020, .inl (fun _ => 0))), (q_314, .inr (2, [.int 0, .int 0, .int 0, .ref q3_316, .int 0, .ref q5_317, .int 0, .int 0, .int 0, .int 0, .ref q10_318, .ref q11_319, .ref q12_320, .ref q13_321, .ref q14_322, .ref q15_323, .int 0, .int 0, .int 0, .int 0, .int 0, .int 0]))] := hD
  have hK : va_K (dC, dI) vwCl [(k_2, .object RX2), (k_4, .int)] s := hK
  refine W.widen (k := 263) (n := 11238) (by omega) (by omega) ?_
  refine va_astq hx hb hK hP hD hS 1 0 3 2 rfl rfl rfl rfl (by unfold vp_in; decide) dX1_init_52 (fun H locs hP hD hS => ?_)
  have hP : va_P (dC, dI) vwCl [(d, .inr (1, [.ref h, .ref y, .ref q_1, .int 0, .int 0, .ref q_3, .null, .int 0])), (q_1, .inl (k_2, 40, .inr (.inr (.inr (.inr (va_up fa27 (28 : Int32).toNatClampNeg (some q_314))))))), (q_3, .inl (k_4, 3020, .inl (fun _ => 0))), (q_314, .inr (2, [.int 0, .int 0, .int 0, .ref q3_316, .int 0, .ref q5_317, .int 0, .int 0, .int 0, .int 0, .ref q10_318, .ref q11_319, .ref q12_320, .ref q13_321, .ref q14_322, .ref q15_323, .int 0, .int 0, .int 0, .int 0, .int 0, .int 0]))] H := hP
  have hD : va_D A [(d, .inr (1, [.ref h, .ref y, .ref q_1, .int 0, .int 0, .ref q_3, .null, .int 0])), (q_1, .inl (k_2, 40, .inr (.inr (.inr (.inr (va_up fa27 (28 : Int32).toNatClampNeg (some q_314))))))), (q_3, .inl (k_4, 3020, .inl (fun _ => 0))), (q_314, .inr (2, [.int 0, .int 0, .int 0, .ref q3_316, .int 0, .ref q5_317, .int 0, .int 0, .int 0, .int 0, .ref q10_318, .ref q11_319, .ref q12_320, .ref q13_321, .ref q14_322, .ref q15_323, .int 0, .int 0, .int 0, .int 0, .int 0, .int 0]))] := hD
  obtain ⟨fa28, efa28⟩ : ∃ z : Nat → Option Nat, z = va_up fa27 (28 : Int32).toNatClampNeg (some q_314) := ⟨_, rfl⟩
  rw [← efa28] at hP hD
  have hP := hP.sub (ws' := [(d, .inr (1, [.ref h, .ref y, .ref q_1, .int 0, .int 0, .ref q_3, .null, .int 0])), (q_1, .inl (k_2, 40, .inr (.inr (.inr (.inr fa28))))), (q_3, .inl (k_4, 3020, .inl (fun _ => 0)))]) [0, 1, 2] rfl
  have hD := hD.sub (ws' := [(d, .inr (1, [.ref h, .ref y, .ref q_1, .int 0, .int 0, .ref q_3, .null, .int 0])), (q_1, .inl (k_2, 40, .inr (.inr (.inr (.inr fa28))))), (q_3, .inl (k_4, 3020, .inl (fun _ => 0)))]) [0, 1, 2] (by decide) rfl
  have hK := hK.sub (tys' := [(k_2, .object RX2), (k_4, .int)]) [0, 1] rfl
  refine lv_iinc (v := 29) (lv' := [(3, .int 29), (0, .ref d), (1, .ref h), (2, .ref y)]) hx hb dX1_init_53 hl (k := 0) rfl (by decide) (by decide) rfl (fun ls hl => ?_)
  refine lv_goto (tgt := 34) hx hb dX1_init_56 (by decide) ?_
  refine lv_iload_n hx hb dX1_init_34 rfl (lv_at hl 0 rfl) ?_
  refine lv_bipush (v := 40) hx hb dX1_init_35 (by decide) ?_
  refine lv_icmp_ge (tgt := 59) hx hb dX1_init_37 (by decide) (fun c_324 => absurd c_324 (by decide)) (fun _ => ?_)
  refine lv_aload_n hx hb dX1_init_40 rfl (lv_at hl 1 rfl) ?_
  refine va_get (D := (dC, dI)) (ci := 1) (v := .ref q_1) (C := RX1) (T := TX1) (N := 8) hx hb hts in_c_decl_X1 hown hK hP 0 rfl rfl 2 (by decide) (hts (.fieldLink RX1 11 "OwnedPlaces$Declarations" "functions" "[LOwnedPlaces$Function;") (wm_c_decl 5 rfl)) (fun _ h9 => h9) rfl dX1_init_41 ?_
  refine lv_iload_n hx hb dX1_init_44 rfl (lv_at hl 0 rfl) ?_
  refine va_new (ci := 2) (fs := [.int 0, .int 0, .int 0, .null, .int 0, .null, .int 0, .int 0, .int 0, .int 0, .null, .null, .null, .null, .null, .null, .int 0, .int 0, .int 0, .int 0, .int 0, .int 0]) (C := RX2) (T := TX2) (N := 22) hx hb hts in_c_decl_X2 tyX2 tyX2_ok hown (hts (.classLink RX1 9 RX2) (wm_c_decl 4 rfl)) (hts (.instantiable RX2 22) (wm_c_decl 10 rfl)) (hts (.initialized RX2) (wm_c_decl 11 rfl)) hK hP hD hS hA rfl dv_X2 (show 263 + 1 ≤ 362 by omega) (show 11238 + 22 ≤ 14340 by omega) dX1_init_45 (fun q_325 H hP hD hS => ?_)
  have hP : va_P (dC, dI) vwCl [(d, .inr (1, [.ref h, .ref y, .ref q_1, .int 0, .int 0, .ref q_3, .null, .int 0])), (q_1, .inl (k_2, 40, .inr (.inr (.inr (.inr fa28))))), (q_3, .inl (k_4, 3020, .inl (fun _ => 0))), (q_325, .inr (2, [.int 0, .int 0, .int 0, .null, .int 0, .null, .int 0, .int 0, .int 0, .int 0, .null, .null, .null, .null, .null, .null, .int 0, .int 0, .int 0, .int 0, .int 0, .int 0]))] H := hP
  have hD : va_D A [(d, .inr (1, [.ref h, .ref y, .ref q_1, .int 0, .int 0, .ref q_3, .null, .int 0])), (q_1, .inl (k_2, 40, .inr (.inr (.inr (.inr fa28))))), (q_3, .inl (k_4, 3020, .inl (fun _ => 0))), (q_325, .inr (2, [.int 0, .int 0, .int 0, .null, .int 0, .null, .int 0, .int 0, .int 0, .int 0, .null, .null, .null, .null, .null, .null, .int 0, .int 0, .int 0, .int 0, .int 0, .int 0]))] := hD
  refine W.widen (k := 264) (n := 11260) (by omega) (by omega) ?_
  refine lv_dup hx hb dX1_init_48 rfl ?_
  have hPc := hP.sub (ws' := [(q_325, .inr (2, [.int 0, .int 0, .int 0, .null, .int 0, .null, .int 0, .int 0, .int 0, .int 0, .null, .null, .null, .null, .null, .null, .int 0, .int 0, .int 0, .int 0, .int 0, .int 0]))]) [3] rfl
  have hDc := hD.sub (ws' := [(q_325, .inr (2, [.int 0, .int 0, .int 0, .null, .int 0, .null, .int 0, .int 0, .int 0, .int 0, .null, .null, .null, .null, .null, .null, .int 0, .int 0, .int 0, .int 0, .int 0, .int 0]))]) [3] (by decide) rfl
  have hKc := hK.sub (tys' := []) [] rfl
  have hFc := va_free (wc := [(q_325, .inr (2, [.int 0, .int 0, .int 0, .null, .int 0, .null, .int 0, .int 0, .int 0, .int 0, .null, .null, .null, .null, .null, .null, .int 0, .int 0, .int 0, .int 0, .int 0, .int 0]))]) hD hS hA [3] rfl
  refine va_callv (va_runIN (As := []) (rest := [.ref q_325, .int 29, .ref q_1]) ⟨hx, hb, hml, hown, hts⟩ (c_function l dC dI q_325 H.size) ⟨va_cnB 0 hts g_c_decl_c_function_49 rfl rfl rfl hpre0 (hts (.initialized RX2) (wm_c_decl 11 rfl)) (by decide +kernel) ⟨Nat.le_of_ble_eq_true rfl, Nat.le_of_ble_eq_true rfl⟩, rfl, (hts (.instanceMethod yX2_init) (wm_c_decl 23 rfl))⟩ ⟨fun a U g mk q => by obtain ⟨q0, q1, qP, qK, qD⟩ := q; exact ⟨q0, q1, qP, va_K.moved (u := U) (U := U.calling g mk a) (Vm.Alike.refl U.vm) qK, qD⟩, fun U hU hW => ⟨rfl, by rw [hU], by rw [hU]; exact hPc, va_K.moved hW.alike hKc, hDc.weaken (fun _ _ _ _ => trivial)⟩⟩ rfl rfl hl.1 rfl (lv_room (Nat.le_of_ble_eq_true rfl)) dX1_init_49 ⟨(show 264 + 8 ≤ 362 by omega), (show 11260 + 260 ≤ 14340 by omega)⟩) hS (fun q _ h => hFc q h) hFc (fun u tS H1 locs ht hvm hw hB hz1 hk1 hS => ?_)
  obtain ⟨q3_327, q5_328, q10_329, q11_330, q12_331, q13_332, q14_333, q15_334, hP1, hK1, hD1⟩ := hB
  rw [ht] at hP1
  have hK1 := va_K.moved hvm.symm hK1
  obtain ⟨hP, hD⟩ := va_join (wr := [(d, .inr (1, [.ref h, .ref y, .ref q_1, .int 0, .int 0, .ref q_3, .null, .int 0])), (q_1, .inl (k_2, 40, .inr (.inr (.inr (.inr fa28))))), (q_3, .inl (k_4, 3020, .inl (fun _ => 0)))]) (w1 := [(q_325, .inr (2, [.int 0, .int 0, .int 0, .ref q3_327, .int 0, .ref q5_328, .int 0, .int 0, .int 0, .int 0, .ref q10_329, .ref q11_330, .ref q12_331, .ref q13_332, .ref q14_333, .ref q15_334, .int 0, .int 0, .int 0, .int 0, .int 0, .int 0]))]) hP hD [3] [0, 1, 2] rfl rfl (by decide) (by decide) hk1 hFc hP1 hD1
  generalize H1 = H at hP hS ⊢
  have hP : va_P (dC, dI) vwCl [(d, .inr (1, [.ref h, .ref y, .ref q_1, .int 0, .int 0, .ref q_3, .null, .int 0])), (q_1, .inl (k_2, 40, .inr (.inr (.inr (.inr fa28))))), (q_3, .inl (k_4, 3020, .inl (fun _ => 0))), (q_325, .inr (2, [.int 0, .int 0, .int 0, .ref q3_327, .int 0, .ref q5_328, .int 0, .int 0, .int 0, .int 0, .ref q10_329, .ref q11_330, .ref q12_331, .ref q13_332, .ref q14_333, .ref q15_334, .int 0, .int 0, .int 0, .int 0, .int 0, .int 0]))] H := hP
  have hD : va_D A [(d, .inr (1, [.ref h, .ref y, .ref q_1, .int 0, .int 0, .ref q_3, .null, .int 0])), (q_1, .inl (k_2, 40, .inr (.inr (.inr (.inr fa28))))), (q_3, .inl (k_4, 3020, .inl (fun _ => 0))), (q_325, .inr (2, [.int 0, .int 0, .int 0, .ref q3_327, .int 0, .ref q5_328, .int 0, .int 0, .int 0, .int 0, .ref q10_329, .ref q11_330, .ref q12_331, .ref q13_332, .ref q14_333, .ref q15_334, .int 0, .int 0, .int 0, .int 0, .int 0, .int 0]))] := hD
  have hK : va_K (dC, dI) vwCl [(k_2, .object RX2), (k_4, .int)] s := hK
  refine W.widen (k := 272) (n := 11520) (by omega) (by omega) ?_
  refine va_astq hx hb hK hP hD hS 1 0 3 2 rfl rfl rfl rfl (by unfold vp_in; decide) dX1_init_52 (fun H locs hP hD hS => ?_)
  have hP : va_P (dC, dI) vwCl [(d, .inr (1, [.ref h, .ref y, .ref q_1, .int 0, .int 0, .ref q_3, .null, .int 0])), (q_1, .inl (k_2, 40, .inr (.inr (.inr (.inr (va_up fa28 (29 : Int32).toNatClampNeg (some q_325))))))), (q_3, .inl (k_4, 3020, .inl (fun _ => 0))), (q_325, .inr (2, [.int 0, .int 0, .int 0, .ref q3_327, .int 0, .ref q5_328, .int 0, .int 0, .int 0, .int 0, .ref q10_329, .ref q11_330, .ref q12_331, .ref q13_332, .ref q14_333, .ref q15_334, .int 0, .int 0, .int 0, .int 0, .int 0, .int 0]))] H := hP
  have hD : va_D A [(d, .inr (1, [.ref h, .ref y, .ref q_1, .int 0, .int 0, .ref q_3, .null, .int 0])), (q_1, .inl (k_2, 40, .inr (.inr (.inr (.inr (va_up fa28 (29 : Int32).toNatClampNeg (some q_325))))))), (q_3, .inl (k_4, 3020, .inl (fun _ => 0))), (q_325, .inr (2, [.int 0, .int 0, .int 0, .ref q3_327, .int 0, .ref q5_328, .int 0, .int 0, .int 0, .int 0, .ref q10_329, .ref q11_330, .ref q12_331, .ref q13_332, .ref q14_333, .ref q15_334, .int 0, .int 0, .int 0, .int 0, .int 0, .int 0]))] := hD
  obtain ⟨fa29, efa29⟩ : ∃ z : Nat → Option Nat, z = va_up fa28 (29 : Int32).toNatClampNeg (some q_325) := ⟨_, rfl⟩
  rw [← efa29] at hP hD
  have hP := hP.sub (ws' := [(d, .inr (1, [.ref h, .ref y, .ref q_1, .int 0, .int 0, .ref q_3, .null, .int 0])), (q_1, .inl (k_2, 40, .inr (.inr (.inr (.inr fa29))))), (q_3, .inl (k_4, 3020, .inl (fun _ => 0)))]) [0, 1, 2] rfl
  have hD := hD.sub (ws' := [(d, .inr (1, [.ref h, .ref y, .ref q_1, .int 0, .int 0, .ref q_3, .null, .int 0])), (q_1, .inl (k_2, 40, .inr (.inr (.inr (.inr fa29))))), (q_3, .inl (k_4, 3020, .inl (fun _ => 0)))]) [0, 1, 2] (by decide) rfl
  have hK := hK.sub (tys' := [(k_2, .object RX2), (k_4, .int)]) [0, 1] rfl
  refine lv_iinc (v := 30) (lv' := [(3, .int 30), (0, .ref d), (1, .ref h), (2, .ref y)]) hx hb dX1_init_53 hl (k := 0) rfl (by decide) (by decide) rfl (fun ls hl => ?_)
  refine lv_goto (tgt := 34) hx hb dX1_init_56 (by decide) ?_
  refine lv_iload_n hx hb dX1_init_34 rfl (lv_at hl 0 rfl) ?_
  refine lv_bipush (v := 40) hx hb dX1_init_35 (by decide) ?_
  refine lv_icmp_ge (tgt := 59) hx hb dX1_init_37 (by decide) (fun c_335 => absurd c_335 (by decide)) (fun _ => ?_)
  refine lv_aload_n hx hb dX1_init_40 rfl (lv_at hl 1 rfl) ?_
  refine va_get (D := (dC, dI)) (ci := 1) (v := .ref q_1) (C := RX1) (T := TX1) (N := 8) hx hb hts in_c_decl_X1 hown hK hP 0 rfl rfl 2 (by decide) (hts (.fieldLink RX1 11 "OwnedPlaces$Declarations" "functions" "[LOwnedPlaces$Function;") (wm_c_decl 5 rfl)) (fun _ h9 => h9) rfl dX1_init_41 ?_
  refine lv_iload_n hx hb dX1_init_44 rfl (lv_at hl 0 rfl) ?_
  refine va_new (ci := 2) (fs := [.int 0, .int 0, .int 0, .null, .int 0, .null, .int 0, .int 0, .int 0, .int 0, .null, .null, .null, .null, .null, .null, .int 0, .int 0, .int 0, .int 0, .int 0, .int 0]) (C := RX2) (T := TX2) (N := 22) hx hb hts in_c_decl_X2 tyX2 tyX2_ok hown (hts (.classLink RX1 9 RX2) (wm_c_decl 4 rfl)) (hts (.instantiable RX2 22) (wm_c_decl 10 rfl)) (hts (.initialized RX2) (wm_c_decl 11 rfl)) hK hP hD hS hA rfl dv_X2 (show 272 + 1 ≤ 362 by omega) (show 11520 + 22 ≤ 14340 by omega) dX1_init_45 (fun q_336 H hP hD hS => ?_)
  have hP : va_P (dC, dI) vwCl [(d, .inr (1, [.ref h, .ref y, .ref q_1, .int 0, .int 0, .ref q_3, .null, .int 0])), (q_1, .inl (k_2, 40, .inr (.inr (.inr (.inr fa29))))), (q_3, .inl (k_4, 3020, .inl (fun _ => 0))), (q_336, .inr (2, [.int 0, .int 0, .int 0, .null, .int 0, .null, .int 0, .int 0, .int 0, .int 0, .null, .null, .null, .null, .null, .null, .int 0, .int 0, .int 0, .int 0, .int 0, .int 0]))] H := hP
  have hD : va_D A [(d, .inr (1, [.ref h, .ref y, .ref q_1, .int 0, .int 0, .ref q_3, .null, .int 0])), (q_1, .inl (k_2, 40, .inr (.inr (.inr (.inr fa29))))), (q_3, .inl (k_4, 3020, .inl (fun _ => 0))), (q_336, .inr (2, [.int 0, .int 0, .int 0, .null, .int 0, .null, .int 0, .int 0, .int 0, .int 0, .null, .null, .null, .null, .null, .null, .int 0, .int 0, .int 0, .int 0, .int 0, .int 0]))] := hD
  refine W.widen (k := 273) (n := 11542) (by omega) (by omega) ?_
  refine lv_dup hx hb dX1_init_48 rfl ?_
  have hPc := hP.sub (ws' := [(q_336, .inr (2, [.int 0, .int 0, .int 0, .null, .int 0, .null, .int 0, .int 0, .int 0, .int 0, .null, .null, .null, .null, .null, .null, .int 0, .int 0, .int 0, .int 0, .int 0, .int 0]))]) [3] rfl
  have hDc := hD.sub (ws' := [(q_336, .inr (2, [.int 0, .int 0, .int 0, .null, .int 0, .null, .int 0, .int 0, .int 0, .int 0, .null, .null, .null, .null, .null, .null, .int 0, .int 0, .int 0, .int 0, .int 0, .int 0]))]) [3] (by decide) rfl
  have hKc := hK.sub (tys' := []) [] rfl
  have hFc := va_free (wc := [(q_336, .inr (2, [.int 0, .int 0, .int 0, .null, .int 0, .null, .int 0, .int 0, .int 0, .int 0, .null, .null, .null, .null, .null, .null, .int 0, .int 0, .int 0, .int 0, .int 0, .int 0]))]) hD hS hA [3] rfl
  refine va_callv (va_runIN (As := []) (rest := [.ref q_336, .int 30, .ref q_1]) ⟨hx, hb, hml, hown, hts⟩ (c_function l dC dI q_336 H.size) ⟨va_cnB 0 hts g_c_decl_c_function_49 rfl rfl rfl hpre0 (hts (.initialized RX2) (wm_c_decl 11 rfl)) (by decide +kernel) ⟨Nat.le_of_ble_eq_true rfl, Nat.le_of_ble_eq_true rfl⟩, rfl, (hts (.instanceMethod yX2_init) (wm_c_decl 23 rfl))⟩ ⟨fun a U g mk q => by obtain ⟨q0, q1, qP, qK, qD⟩ := q; exact ⟨q0, q1, qP, va_K.moved (u := U) (U := U.calling g mk a) (Vm.Alike.refl U.vm) qK, qD⟩, fun U hU hW => ⟨rfl, by rw [hU], by rw [hU]; exact hPc, va_K.moved hW.alike hKc, hDc.weaken (fun _ _ _ _ => trivial)⟩⟩ rfl rfl hl.1 rfl (lv_room (Nat.le_of_ble_eq_true rfl)) dX1_init_49 ⟨(show 273 + 8 ≤ 362 by omega), (show 11542 + 260 ≤ 14340 by omega)⟩) hS (fun q _ h => hFc q h) hFc (fun u tS H1 locs ht hvm hw hB hz1 hk1 hS => ?_)
  obtain ⟨q3_338, q5_339, q10_340, q11_341, q12_342, q13_343, q14_344, q15_345, hP1, hK1, hD1⟩ := hB
  rw [ht] at hP1
  have hK1 := va_K.moved hvm.symm hK1
  obtain ⟨hP, hD⟩ := va_join (wr := [(d, .inr (1, [.ref h, .ref y, .ref q_1, .int 0, .int 0, .ref q_3, .null, .int 0])), (q_1, .inl (k_2, 40, .inr (.inr (.inr (.inr fa29))))), (q_3, .inl (k_4, 3020, .inl (fun _ => 0)))]) (w1 := [(q_336, .inr (2, [.int 0, .int 0, .int 0, .ref q3_338, .int 0, .ref q5_339, .int 0, .int 0, .int 0, .int 0, .ref q10_340, .ref q11_341, .ref q12_342, .ref q13_343, .ref q14_344, .ref q15_345, .int 0, .int 0, .int 0, .int 0, .int 0, .int 0]))]) hP hD [3] [0, 1, 2] rfl rfl (by decide) (by decide) hk1 hFc hP1 hD1
  generalize H1 = H at hP hS ⊢
  have hP : va_P (dC, dI) vwCl [(d, .inr (1, [.ref h, .ref y, .ref q_1, .int 0, .int 0, .ref q_3, .null, .int 0])), (q_1, .inl (k_2, 40, .inr (.inr (.inr (.inr fa29))))), (q_3, .inl (k_4, 3020, .inl (fun _ => 0))), (q_336, .inr (2, [.int 0, .int 0, .int 0, .ref q3_338, .int 0, .ref q5_339, .int 0, .int 0, .int 0, .int 0, .ref q10_340, .ref q11_341, .ref q12_342, .ref q13_343, .ref q14_344, .ref q15_345, .int 0, .int 0, .int 0, .int 0, .int 0, .int 0]))] H := hP
  have hD : va_D A [(d, .inr (1, [.ref h, .ref y, .ref q_1, .int 0, .int 0, .ref q_3, .null, .int 0])), (q_1, .inl (k_2, 40, .inr (.inr (.inr (.inr fa29))))), (q_3, .inl (k_4, 3020, .inl (fun _ => 0))), (q_336, .inr (2, [.int 0, .int 0, .int 0, .ref q3_338, .int 0, .ref q5_339, .int 0, .int 0, .int 0, .int 0, .ref q10_340, .ref q11_341, .ref q12_342, .ref q13_343, .ref q14_344, .ref q15_345, .int 0, .int 0, .int 0, .int 0, .int 0, .int 0]))] := hD
  have hK : va_K (dC, dI) vwCl [(k_2, .object RX2), (k_4, .int)] s := hK
  refine W.widen (k := 281) (n := 11802) (by omega) (by omega) ?_
  refine va_astq hx hb hK hP hD hS 1 0 3 2 rfl rfl rfl rfl (by unfold vp_in; decide) dX1_init_52 (fun H locs hP hD hS => ?_)
  have hP : va_P (dC, dI) vwCl [(d, .inr (1, [.ref h, .ref y, .ref q_1, .int 0, .int 0, .ref q_3, .null, .int 0])), (q_1, .inl (k_2, 40, .inr (.inr (.inr (.inr (va_up fa29 (30 : Int32).toNatClampNeg (some q_336))))))), (q_3, .inl (k_4, 3020, .inl (fun _ => 0))), (q_336, .inr (2, [.int 0, .int 0, .int 0, .ref q3_338, .int 0, .ref q5_339, .int 0, .int 0, .int 0, .int 0, .ref q10_340, .ref q11_341, .ref q12_342, .ref q13_343, .ref q14_344, .ref q15_345, .int 0, .int 0, .int 0, .int 0, .int 0, .int 0]))] H := hP
  have hD : va_D A [(d, .inr (1, [.ref h, .ref y, .ref q_1, .int 0, .int 0, .ref q_3, .null, .int 0])), (q_1, .inl (k_2, 40, .inr (.inr (.inr (.inr (va_up fa29 (30 : Int32).toNatClampNeg (some q_336))))))), (q_3, .inl (k_4, 3020, .inl (fun _ => 0))), (q_336, .inr (2, [.int 0, .int 0, .int 0, .ref q3_338, .int 0, .ref q5_339, .int 0, .int 0, .int 0, .int 0, .ref q10_340, .ref q11_341, .ref q12_342, .ref q13_343, .ref q14_344, .ref q15_345, .int 0, .int 0, .int 0, .int 0, .int 0, .int 0]))] := hD
  obtain ⟨fa30, efa30⟩ : ∃ z : Nat → Option Nat, z = va_up fa29 (30 : Int32).toNatClampNeg (some q_336) := ⟨_, rfl⟩
  rw [← efa30] at hP hD
  have hP := hP.sub (ws' := [(d, .inr (1, [.ref h, .ref y, .ref q_1, .int 0, .int 0, .ref q_3, .null, .int 0])), (q_1, .inl (k_2, 40, .inr (.inr (.inr (.inr fa30))))), (q_3, .inl (k_4, 3020, .inl (fun _ => 0)))]) [0, 1, 2] rfl
  have hD := hD.sub (ws' := [(d, .inr (1, [.ref h, .ref y, .ref q_1, .int 0, .int 0, .ref q_3, .null, .int 0])), (q_1, .inl (k_2, 40, .inr (.inr (.inr (.inr fa30))))), (q_3, .inl (k_4, 3020, .inl (fun _ => 0)))]) [0, 1, 2] (by decide) rfl
  have hK := hK.sub (tys' := [(k_2, .object RX2), (k_4, .int)]) [0, 1] rfl
  refine lv_iinc (v := 31) (lv' := [(3, .int 31), (0, .ref d), (1, .ref h), (2, .ref y)]) hx hb dX1_init_53 hl (k := 0) rfl (by decide) (by decide) rfl (fun ls hl => ?_)
  refine lv_goto (tgt := 34) hx hb dX1_init_56 (by decide) ?_
  refine lv_iload_n hx hb dX1_init_34 rfl (lv_at hl 0 rfl) ?_
  refine lv_bipush (v := 40) hx hb dX1_init_35 (by decide) ?_
  refine lv_icmp_ge (tgt := 59) hx hb dX1_init_37 (by decide) (fun c_346 => absurd c_346 (by decide)) (fun _ => ?_)
  refine lv_aload_n hx hb dX1_init_40 rfl (lv_at hl 1 rfl) ?_
  refine va_get (D := (dC, dI)) (ci := 1) (v := .ref q_1) (C := RX1) (T := TX1) (N := 8) hx hb hts in_c_decl_X1 hown hK hP 0 rfl rfl 2 (by decide) (hts (.fieldLink RX1 11 "OwnedPlaces$Declarations" "functions" "[LOwnedPlaces$Function;") (wm_c_decl 5 rfl)) (fun _ h9 => h9) rfl dX1_init_41 ?_
  refine lv_iload_n hx hb dX1_init_44 rfl (lv_at hl 0 rfl) ?_
  refine va_new (ci := 2) (fs := [.int 0, .int 0, .int 0, .null, .int 0, .null, .int 0, .int 0, .int 0, .int 0, .null, .null, .null, .null, .null, .null, .int 0, .int 0, .int 0, .int 0, .int 0, .int 0]) (C := RX2) (T := TX2) (N := 22) hx hb hts in_c_decl_X2 tyX2 tyX2_ok hown (hts (.classLink RX1 9 RX2) (wm_c_decl 4 rfl)) (hts (.instantiable RX2 22) (wm_c_decl 10 rfl)) (hts (.initialized RX2) (wm_c_decl 11 rfl)) hK hP hD hS hA rfl dv_X2 (show 281 + 1 ≤ 362 by omega) (show 11802 + 22 ≤ 14340 by omega) dX1_init_45 (fun q_347 H hP hD hS => ?_)
  have hP : va_P (dC, dI) vwCl [(d, .inr (1, [.ref h, .ref y, .ref q_1, .int 0, .int 0, .ref q_3, .null, .int 0])), (q_1, .inl (k_2, 40, .inr (.inr (.inr (.inr fa30))))), (q_3, .inl (k_4, 3020, .inl (fun _ => 0))), (q_347, .inr (2, [.int 0, .int 0, .int 0, .null, .int 0, .null, .int 0, .int 0, .int 0, .int 0, .null, .null, .null, .null, .null, .null, .int 0, .int 0, .int 0, .int 0, .int 0, .int 0]))] H := hP
  have hD : va_D A [(d, .inr (1, [.ref h, .ref y, .ref q_1, .int 0, .int 0, .ref q_3, .null, .int 0])), (q_1, .inl (k_2, 40, .inr (.inr (.inr (.inr fa30))))), (q_3, .inl (k_4, 3020, .inl (fun _ => 0))), (q_347, .inr (2, [.int 0, .int 0, .int 0, .null, .int 0, .null, .int 0, .int 0, .int 0, .int 0, .null, .null, .null, .null, .null, .null, .int 0, .int 0, .int 0, .int 0, .int 0, .int 0]))] := hD
  refine W.widen (k := 282) (n := 11824) (by omega) (by omega) ?_
  refine lv_dup hx hb dX1_init_48 rfl ?_
  have hPc := hP.sub (ws' := [(q_347, .inr (2, [.int 0, .int 0, .int 0, .null, .int 0, .null, .int 0, .int 0, .int 0, .int 0, .null, .null, .null, .null, .null, .null, .int 0, .int 0, .int 0, .int 0, .int 0, .int 0]))]) [3] rfl
  have hDc := hD.sub (ws' := [(q_347, .inr (2, [.int 0, .int 0, .int 0, .null, .int 0, .null, .int 0, .int 0, .int 0, .int 0, .null, .null, .null, .null, .null, .null, .int 0, .int 0, .int 0, .int 0, .int 0, .int 0]))]) [3] (by decide) rfl
  have hKc := hK.sub (tys' := []) [] rfl
  have hFc := va_free (wc := [(q_347, .inr (2, [.int 0, .int 0, .int 0, .null, .int 0, .null, .int 0, .int 0, .int 0, .int 0, .null, .null, .null, .null, .null, .null, .int 0, .int 0, .int 0, .int 0, .int 0, .int 0]))]) hD hS hA [3] rfl
  refine va_callv (va_runIN (As := []) (rest := [.ref q_347, .int 31, .ref q_1]) ⟨hx, hb, hml, hown, hts⟩ (c_function l dC dI q_347 H.size) ⟨va_cnB 0 hts g_c_decl_c_function_49 rfl rfl rfl hpre0 (hts (.initialized RX2) (wm_c_decl 11 rfl)) (by decide +kernel) ⟨Nat.le_of_ble_eq_true rfl, Nat.le_of_ble_eq_true rfl⟩, rfl, (hts (.instanceMethod yX2_init) (wm_c_decl 23 rfl))⟩ ⟨fun a U g mk q => by obtain ⟨q0, q1, qP, qK, qD⟩ := q; exact ⟨q0, q1, qP, va_K.moved (u := U) (U := U.calling g mk a) (Vm.Alike.refl U.vm) qK, qD⟩, fun U hU hW => ⟨rfl, by rw [hU], by rw [hU]; exact hPc, va_K.moved hW.alike hKc, hDc.weaken (fun _ _ _ _ => trivial)⟩⟩ rfl rfl hl.1 rfl (lv_room (Nat.le_of_ble_eq_true rfl)) dX1_init_49 ⟨(show 282 + 8 ≤ 362 by omega), (show 11824 + 260 ≤ 14340 by omega)⟩) hS (fun q _ h => hFc q h) hFc (fun u tS H1 locs ht hvm hw hB hz1 hk1 hS => ?_)
  obtain ⟨q3_349, q5_350, q10_351, q11_352, q12_353, q13_354, q14_355, q15_356, hP1, hK1, hD1⟩ := hB
  rw [ht] at hP1
  have hK1 := va_K.moved hvm.symm hK1
  obtain ⟨hP, hD⟩ := va_join (wr := [(d, .inr (1, [.ref h, .ref y, .ref q_1, .int 0, .int 0, .ref q_3, .null, .int 0])), (q_1, .inl (k_2, 40, .inr (.inr (.inr (.inr fa30))))), (q_3, .inl (k_4, 3020, .inl (fun _ => 0)))]) (w1 := [(q_347, .inr (2, [.int 0, .int 0, .int 0, .ref q3_349, .int 0, .ref q5_350, .int 0, .int 0, .int 0, .int 0, .ref q10_351, .ref q11_352, .ref q12_353, .ref q13_354, .ref q14_355, .ref q15_356, .int 0, .int 0, .int 0, .int 0, .int 0, .int 0]))]) hP hD [3] [0, 1, 2] rfl rfl (by decide) (by decide) hk1 hFc hP1 hD1
  generalize H1 = H at hP hS ⊢
  have hP : va_P (dC, dI) vwCl [(d, .inr (1, [.ref h, .ref y, .ref q_1, .int 0, .int 0, .ref q_3, .null, .int 0])), (q_1, .inl (k_2, 40, .inr (.inr (.inr (.inr fa30))))), (q_3, .inl (k_4, 3020, .inl (fun _ => 0))), (q_347, .inr (2, [.int 0, .int 0, .int 0, .ref q3_349, .int 0, .ref q5_350, .int 0, .int 0, .int 0, .int 0, .ref q10_351, .ref q11_352, .ref q12_353, .ref q13_354, .ref q14_355, .ref q15_356, .int 0, .int 0, .int 0, .int 0, .int 0, .int 0]))] H := hP
  have hD : va_D A [(d, .inr (1, [.ref h, .ref y, .ref q_1, .int 0, .int 0, .ref q_3, .null, .int 0])), (q_1, .inl (k_2, 40, .inr (.inr (.inr (.inr fa30))))), (q_3, .inl (k_4, 3020, .inl (fun _ => 0))), (q_347, .inr (2, [.int 0, .int 0, .int 0, .ref q3_349, .int 0, .ref q5_350, .int 0, .int 0, .int 0, .int 0, .ref q10_351, .ref q11_352, .ref q12_353, .ref q13_354, .ref q14_355, .ref q15_356, .int 0, .int 0, .int 0, .int 0, .int 0, .int 0]))] := hD
  have hK : va_K (dC, dI) vwCl [(k_2, .object RX2), (k_4, .int)] s := hK
  refine W.widen (k := 290) (n := 12084) (by omega) (by omega) ?_
  refine va_astq hx hb hK hP hD hS 1 0 3 2 rfl rfl rfl rfl (by unfold vp_in; decide) dX1_init_52 (fun H locs hP hD hS => ?_)
  have hP : va_P (dC, dI) vwCl [(d, .inr (1, [.ref h, .ref y, .ref q_1, .int 0, .int 0, .ref q_3, .null, .int 0])), (q_1, .inl (k_2, 40, .inr (.inr (.inr (.inr (va_up fa30 (31 : Int32).toNatClampNeg (some q_347))))))), (q_3, .inl (k_4, 3020, .inl (fun _ => 0))), (q_347, .inr (2, [.int 0, .int 0, .int 0, .ref q3_349, .int 0, .ref q5_350, .int 0, .int 0, .int 0, .int 0, .ref q10_351, .ref q11_352, .ref q12_353, .ref q13_354, .ref q14_355, .ref q15_356, .int 0, .int 0, .int 0, .int 0, .int 0, .int 0]))] H := hP
  have hD : va_D A [(d, .inr (1, [.ref h, .ref y, .ref q_1, .int 0, .int 0, .ref q_3, .null, .int 0])), (q_1, .inl (k_2, 40, .inr (.inr (.inr (.inr (va_up fa30 (31 : Int32).toNatClampNeg (some q_347))))))), (q_3, .inl (k_4, 3020, .inl (fun _ => 0))), (q_347, .inr (2, [.int 0, .int 0, .int 0, .ref q3_349, .int 0, .ref q5_350, .int 0, .int 0, .int 0, .int 0, .ref q10_351, .ref q11_352, .ref q12_353, .ref q13_354, .ref q14_355, .ref q15_356, .int 0, .int 0, .int 0, .int 0, .int 0, .int 0]))] := hD
  obtain ⟨fa31, efa31⟩ : ∃ z : Nat → Option Nat, z = va_up fa30 (31 : Int32).toNatClampNeg (some q_347) := ⟨_, rfl⟩
  rw [← efa31] at hP hD
  have hP := hP.sub (ws' := [(d, .inr (1, [.ref h, .ref y, .ref q_1, .int 0, .int 0, .ref q_3, .null, .int 0])), (q_1, .inl (k_2, 40, .inr (.inr (.inr (.inr fa31))))), (q_3, .inl (k_4, 3020, .inl (fun _ => 0)))]) [0, 1, 2] rfl
  have hD := hD.sub (ws' := [(d, .inr (1, [.ref h, .ref y, .ref q_1, .int 0, .int 0, .ref q_3, .null, .int 0])), (q_1, .inl (k_2, 40, .inr (.inr (.inr (.inr fa31))))), (q_3, .inl (k_4, 3020, .inl (fun _ => 0)))]) [0, 1, 2] (by decide) rfl
  have hK := hK.sub (tys' := [(k_2, .object RX2), (k_4, .int)]) [0, 1] rfl
  refine lv_iinc (v := 32) (lv' := [(3, .int 32), (0, .ref d), (1, .ref h), (2, .ref y)]) hx hb dX1_init_53 hl (k := 0) rfl (by decide) (by decide) rfl (fun ls hl => ?_)
  refine lv_goto (tgt := 34) hx hb dX1_init_56 (by decide) ?_
  refine lv_iload_n hx hb dX1_init_34 rfl (lv_at hl 0 rfl) ?_
  refine lv_bipush (v := 40) hx hb dX1_init_35 (by decide) ?_
  refine lv_icmp_ge (tgt := 59) hx hb dX1_init_37 (by decide) (fun c_357 => absurd c_357 (by decide)) (fun _ => ?_)
  refine lv_aload_n hx hb dX1_init_40 rfl (lv_at hl 1 rfl) ?_
  refine va_get (D := (dC, dI)) (ci := 1) (v := .ref q_1) (C := RX1) (T := TX1) (N := 8) hx hb hts in_c_decl_X1 hown hK hP 0 rfl rfl 2 (by decide) (hts (.fieldLink RX1 11 "OwnedPlaces$Declarations" "functions" "[LOwnedPlaces$Function;") (wm_c_decl 5 rfl)) (fun _ h9 => h9) rfl dX1_init_41 ?_
  refine lv_iload_n hx hb dX1_init_44 rfl (lv_at hl 0 rfl) ?_
  refine va_new (ci := 2) (fs := [.int 0, .int 0, .int 0, .null, .int 0, .null, .int 0, .int 0, .int 0, .int 0, .null, .null, .null, .null, .null, .null, .int 0, .int 0, .int 0, .int 0, .int 0, .int 0]) (C := RX2) (T := TX2) (N := 22) hx hb hts in_c_decl_X2 tyX2 tyX2_ok hown (hts (.classLink RX1 9 RX2) (wm_c_decl 4 rfl)) (hts (.instantiable RX2 22) (wm_c_decl 10 rfl)) (hts (.initialized RX2) (wm_c_decl 11 rfl)) hK hP hD hS hA rfl dv_X2 (show 290 + 1 ≤ 362 by omega) (show 12084 + 22 ≤ 14340 by omega) dX1_init_45 (fun q_358 H hP hD hS => ?_)
  have hP : va_P (dC, dI) vwCl [(d, .inr (1, [.ref h, .ref y, .ref q_1, .int 0, .int 0, .ref q_3, .null, .int 0])), (q_1, .inl (k_2, 40, .inr (.inr (.inr (.inr fa31))))), (q_3, .inl (k_4, 3020, .inl (fun _ => 0))), (q_358, .inr (2, [.int 0, .int 0, .int 0, .null, .int 0, .null, .int 0, .int 0, .int 0, .int 0, .null, .null, .null, .null, .null, .null, .int 0, .int 0, .int 0, .int 0, .int 0, .int 0]))] H := hP
  have hD : va_D A [(d, .inr (1, [.ref h, .ref y, .ref q_1, .int 0, .int 0, .ref q_3, .null, .int 0])), (q_1, .inl (k_2, 40, .inr (.inr (.inr (.inr fa31))))), (q_3, .inl (k_4, 3020, .inl (fun _ => 0))), (q_358, .inr (2, [.int 0, .int 0, .int 0, .null, .int 0, .null, .int 0, .int 0, .int 0, .int 0, .null, .null, .null, .null, .null, .null, .int 0, .int 0, .int 0, .int 0, .int 0, .int 0]))] := hD
  refine W.widen (k := 291) (n := 12106) (by omega) (by omega) ?_
  refine lv_dup hx hb dX1_init_48 rfl ?_
  have hPc := hP.sub (ws' := [(q_358, .inr (2, [.int 0, .int 0, .int 0, .null, .int 0, .null, .int 0, .int 0, .int 0, .int 0, .null, .null, .null, .null, .null, .null, .int 0, .int 0, .int 0, .int 0, .int 0, .int 0]))]) [3] rfl
  have hDc := hD.sub (ws' := [(q_358, .inr (2, [.int 0, .int 0, .int 0, .null, .int 0, .null, .int 0, .int 0, .int 0, .int 0, .null, .null, .null, .null, .null, .null, .int 0, .int 0, .int 0, .int 0, .int 0, .int 0]))]) [3] (by decide) rfl
  have hKc := hK.sub (tys' := []) [] rfl
  have hFc := va_free (wc := [(q_358, .inr (2, [.int 0, .int 0, .int 0, .null, .int 0, .null, .int 0, .int 0, .int 0, .int 0, .null, .null, .null, .null, .null, .null, .int 0, .int 0, .int 0, .int 0, .int 0, .int 0]))]) hD hS hA [3] rfl
  refine va_callv (va_runIN (As := []) (rest := [.ref q_358, .int 32, .ref q_1]) ⟨hx, hb, hml, hown, hts⟩ (c_function l dC dI q_358 H.size) ⟨va_cnB 0 hts g_c_decl_c_function_49 rfl rfl rfl hpre0 (hts (.initialized RX2) (wm_c_decl 11 rfl)) (by decide +kernel) ⟨Nat.le_of_ble_eq_true rfl, Nat.le_of_ble_eq_true rfl⟩, rfl, (hts (.instanceMethod yX2_init) (wm_c_decl 23 rfl))⟩ ⟨fun a U g mk q => by obtain ⟨q0, q1, qP, qK, qD⟩ := q; exact ⟨q0, q1, qP, va_K.moved (u := U) (U := U.calling g mk a) (Vm.Alike.refl U.vm) qK, qD⟩, fun U hU hW => ⟨rfl, by rw [hU], by rw [hU]; exact hPc, va_K.moved hW.alike hKc, hDc.weaken (fun _ _ _ _ => trivial)⟩⟩ rfl rfl hl.1 rfl (lv_room (Nat.le_of_ble_eq_true rfl)) dX1_init_49 ⟨(show 291 + 8 ≤ 362 by omega), (show 12106 + 260 ≤ 14340 by omega)⟩) hS (fun q _ h => hFc q h) hFc (fun u tS H1 locs ht hvm hw hB hz1 hk1 hS => ?_)
  obtain ⟨q3_360, q5_361, q10_362, q11_363, q12_364, q13_365, q14_366, q15_367, hP1, hK1, hD1⟩ := hB
  rw [ht] at hP1
  have hK1 := va_K.moved hvm.symm hK1
  obtain ⟨hP, hD⟩ := va_join (wr := [(d, .inr (1, [.ref h, .ref y, .ref q_1, .int 0, .int 0, .ref q_3, .null, .int 0])), (q_1, .inl (k_2, 40, .inr (.inr (.inr (.inr fa31))))), (q_3, .inl (k_4, 3020, .inl (fun _ => 0)))]) (w1 := [(q_358, .inr (2, [.int 0, .int 0, .int 0, .ref q3_360, .int 0, .ref q5_361, .int 0, .int 0, .int 0, .int 0, .ref q10_362, .ref q11_363, .ref q12_364, .ref q13_365, .ref q14_366, .ref q15_367, .int 0, .int 0, .int 0, .int 0, .int 0, .int 0]))]) hP hD [3] [0, 1, 2] rfl rfl (by decide) (by decide) hk1 hFc hP1 hD1
  generalize H1 = H at hP hS ⊢
  have hP : va_P (dC, dI) vwCl [(d, .inr (1, [.ref h, .ref y, .ref q_1, .int 0, .int 0, .ref q_3, .null, .int 0])), (q_1, .inl (k_2, 40, .inr (.inr (.inr (.inr fa31))))), (q_3, .inl (k_4, 3020, .inl (fun _ => 0))), (q_358, .inr (2, [.int 0, .int 0, .int 0, .ref q3_360, .int 0, .ref q5_361, .int 0, .int 0, .int 0, .int 0, .ref q10_362, .ref q11_363, .ref q12_364, .ref q13_365, .ref q14_366, .ref q15_367, .int 0, .int 0, .int 0, .int 0, .int 0, .int 0]))] H := hP
  have hD : va_D A [(d, .inr (1, [.ref h, .ref y, .ref q_1, .int 0, .int 0, .ref q_3, .null, .int 0])), (q_1, .inl (k_2, 40, .inr (.inr (.inr (.inr fa31))))), (q_3, .inl (k_4, 3020, .inl (fun _ => 0))), (q_358, .inr (2, [.int 0, .int 0, .int 0, .ref q3_360, .int 0, .ref q5_361, .int 0, .int 0, .int 0, .int 0, .ref q10_362, .ref q11_363, .ref q12_364, .ref q13_365, .ref q14_366, .ref q15_367, .int 0, .int 0, .int 0, .int 0, .int 0, .int 0]))] := hD
  have hK : va_K (dC, dI) vwCl [(k_2, .object RX2), (k_4, .int)] s := hK
  refine W.widen (k := 299) (n := 12366) (by omega) (by omega) ?_
  refine va_astq hx hb hK hP hD hS 1 0 3 2 rfl rfl rfl rfl (by unfold vp_in; decide) dX1_init_52 (fun H locs hP hD hS => ?_)
  have hP : va_P (dC, dI) vwCl [(d, .inr (1, [.ref h, .ref y, .ref q_1, .int 0, .int 0, .ref q_3, .null, .int 0])), (q_1, .inl (k_2, 40, .inr (.inr (.inr (.inr (va_up fa31 (32 : Int32).toNatClampNeg (some q_358))))))), (q_3, .inl (k_4, 3020, .inl (fun _ => 0))), (q_358, .inr (2, [.int 0, .int 0, .int 0, .ref q3_360, .int 0, .ref q5_361, .int 0, .int 0, .int 0, .int 0, .ref q10_362, .ref q11_363, .ref q12_364, .ref q13_365, .ref q14_366, .ref q15_367, .int 0, .int 0, .int 0, .int 0, .int 0, .int 0]))] H := hP
  have hD : va_D A [(d, .inr (1, [.ref h, .ref y, .ref q_1, .int 0, .int 0, .ref q_3, .null, .int 0])), (q_1, .inl (k_2, 40, .inr (.inr (.inr (.inr (va_up fa31 (32 : Int32).toNatClampNeg (some q_358))))))), (q_3, .inl (k_4, 3020, .inl (fun _ => 0))), (q_358, .inr (2, [.int 0, .int 0, .int 0, .ref q3_360, .int 0, .ref q5_361, .int 0, .int 0, .int 0, .int 0, .ref q10_362, .ref q11_363, .ref q12_364, .ref q13_365, .ref q14_366, .ref q15_367, .int 0, .int 0, .int 0, .int 0, .int 0, .int 0]))] := hD
  obtain ⟨fa32, efa32⟩ : ∃ z : Nat → Option Nat, z = va_up fa31 (32 : Int32).toNatClampNeg (some q_358) := ⟨_, rfl⟩
  rw [← efa32] at hP hD
  have hP := hP.sub (ws' := [(d, .inr (1, [.ref h, .ref y, .ref q_1, .int 0, .int 0, .ref q_3, .null, .int 0])), (q_1, .inl (k_2, 40, .inr (.inr (.inr (.inr fa32))))), (q_3, .inl (k_4, 3020, .inl (fun _ => 0)))]) [0, 1, 2] rfl
  have hD := hD.sub (ws' := [(d, .inr (1, [.ref h, .ref y, .ref q_1, .int 0, .int 0, .ref q_3, .null, .int 0])), (q_1, .inl (k_2, 40, .inr (.inr (.inr (.inr fa32))))), (q_3, .inl (k_4, 3020, .inl (fun _ => 0)))]) [0, 1, 2] (by decide) rfl
  have hK := hK.sub (tys' := [(k_2, .object RX2), (k_4, .int)]) [0, 1] rfl
  refine lv_iinc (v := 33) (lv' := [(3, .int 33), (0, .ref d), (1, .ref h), (2, .ref y)]) hx hb dX1_init_53 hl (k := 0) rfl (by decide) (by decide) rfl (fun ls hl => ?_)
  refine lv_goto (tgt := 34) hx hb dX1_init_56 (by decide) ?_
  refine lv_iload_n hx hb dX1_init_34 rfl (lv_at hl 0 rfl) ?_
  refine lv_bipush (v := 40) hx hb dX1_init_35 (by decide) ?_
  refine lv_icmp_ge (tgt := 59) hx hb dX1_init_37 (by decide) (fun c_368 => absurd c_368 (by decide)) (fun _ => ?_)
  refine lv_aload_n hx hb dX1_init_40 rfl (lv_at hl 1 rfl) ?_
  refine va_get (D := (dC, dI)) (ci := 1) (v := .ref q_1) (C := RX1) (T := TX1) (N := 8) hx hb hts in_c_decl_X1 hown hK hP 0 rfl rfl 2 (by decide) (hts (.fieldLink RX1 11 "OwnedPlaces$Declarations" "functions" "[LOwnedPlaces$Function;") (wm_c_decl 5 rfl)) (fun _ h9 => h9) rfl dX1_init_41 ?_
  refine lv_iload_n hx hb dX1_init_44 rfl (lv_at hl 0 rfl) ?_
  refine va_new (ci := 2) (fs := [.int 0, .int 0, .int 0, .null, .int 0, .null, .int 0, .int 0, .int 0, .int 0, .null, .null, .null, .null, .null, .null, .int 0, .int 0, .int 0, .int 0, .int 0, .int 0]) (C := RX2) (T := TX2) (N := 22) hx hb hts in_c_decl_X2 tyX2 tyX2_ok hown (hts (.classLink RX1 9 RX2) (wm_c_decl 4 rfl)) (hts (.instantiable RX2 22) (wm_c_decl 10 rfl)) (hts (.initialized RX2) (wm_c_decl 11 rfl)) hK hP hD hS hA rfl dv_X2 (show 299 + 1 ≤ 362 by omega) (show 12366 + 22 ≤ 14340 by omega) dX1_init_45 (fun q_369 H hP hD hS => ?_)
  have hP : va_P (dC, dI) vwCl [(d, .inr (1, [.ref h, .ref y, .ref q_1, .int 0, .int 0, .ref q_3, .null, .int 0])), (q_1, .inl (k_2, 40, .inr (.inr (.inr (.inr fa32))))), (q_3, .inl (k_4, 3020, .inl (fun _ => 0))), (q_369, .inr (2, [.int 0, .int 0, .int 0, .null, .int 0, .null, .int 0, .int 0, .int 0, .int 0, .null, .null, .null, .null, .null, .null, .int 0, .int 0, .int 0, .int 0, .int 0, .int 0]))] H := hP
  have hD : va_D A [(d, .inr (1, [.ref h, .ref y, .ref q_1, .int 0, .int 0, .ref q_3, .null, .int 0])), (q_1, .inl (k_2, 40, .inr (.inr (.inr (.inr fa32))))), (q_3, .inl (k_4, 3020, .inl (fun _ => 0))), (q_369, .inr (2, [.int 0, .int 0, .int 0, .null, .int 0, .null, .int 0, .int 0, .int 0, .int 0, .null, .null, .null, .null, .null, .null, .int 0, .int 0, .int 0, .int 0, .int 0, .int 0]))] := hD
  refine W.widen (k := 300) (n := 12388) (by omega) (by omega) ?_
  refine lv_dup hx hb dX1_init_48 rfl ?_
  have hPc := hP.sub (ws' := [(q_369, .inr (2, [.int 0, .int 0, .int 0, .null, .int 0, .null, .int 0, .int 0, .int 0, .int 0, .null, .null, .null, .null, .null, .null, .int 0, .int 0, .int 0, .int 0, .int 0, .int 0]))]) [3] rfl
  have hDc := hD.sub (ws' := [(q_369, .inr (2, [.int 0, .int 0, .int 0, .null, .int 0, .null, .int 0, .int 0, .int 0, .int 0, .null, .null, .null, .null, .null, .null, .int 0, .int 0, .int 0, .int 0, .int 0, .int 0]))]) [3] (by decide) rfl
  have hKc := hK.sub (tys' := []) [] rfl
  have hFc := va_free (wc := [(q_369, .inr (2, [.int 0, .int 0, .int 0, .null, .int 0, .null, .int 0, .int 0, .int 0, .int 0, .null, .null, .null, .null, .null, .null, .int 0, .int 0, .int 0, .int 0, .int 0, .int 0]))]) hD hS hA [3] rfl
  refine va_callv (va_runIN (As := []) (rest := [.ref q_369, .int 33, .ref q_1]) ⟨hx, hb, hml, hown, hts⟩ (c_function l dC dI q_369 H.size) ⟨va_cnB 0 hts g_c_decl_c_function_49 rfl rfl rfl hpre0 (hts (.initialized RX2) (wm_c_decl 11 rfl)) (by decide +kernel) ⟨Nat.le_of_ble_eq_true rfl, Nat.le_of_ble_eq_true rfl⟩, rfl, (hts (.instanceMethod yX2_init) (wm_c_decl 23 rfl))⟩ ⟨fun a U g mk q => by obtain ⟨q0, q1, qP, qK, qD⟩ := q; exact ⟨q0, q1, qP, va_K.moved (u := U) (U := U.calling g mk a) (Vm.Alike.refl U.vm) qK, qD⟩, fun U hU hW => ⟨rfl, by rw [hU], by rw [hU]; exact hPc, va_K.moved hW.alike hKc, hDc.weaken (fun _ _ _ _ => trivial)⟩⟩ rfl rfl hl.1 rfl (lv_room (Nat.le_of_ble_eq_true rfl)) dX1_init_49 ⟨(show 300 + 8 ≤ 362 by omega), (show 12388 + 260 ≤ 14340 by omega)⟩) hS (fun q _ h => hFc q h) hFc (fun u tS H1 locs ht hvm hw hB hz1 hk1 hS => ?_)
  obtain ⟨q3_371, q5_372, q10_373, q11_374, q12_375, q13_376, q14_377, q15_378, hP1, hK1, hD1⟩ := hB
  rw [ht] at hP1
  have hK1 := va_K.moved hvm.symm hK1
  obtain ⟨hP, hD⟩ := va_join (wr := [(d, .inr (1, [.ref h, .ref y, .ref q_1, .int 0, .int 0, .ref q_3, .null, .int 0])), (q_1, .inl (k_2, 40, .inr (.inr (.inr (.inr fa32))))), (q_3, .inl (k_4, 3020, .inl (fun _ => 0)))]) (w1 := [(q_369, .inr (2, [.int 0, .int 0, .int 0, .ref q3_371, .int 0, .ref q5_372, .int 0, .int 0, .int 0, .int 0, .ref q10_373, .ref q11_374, .ref q12_375, .ref q13_376, .ref q14_377, .ref q15_378, .int 0, .int 0, .int 0, .int 0, .int 0, .int 0]))]) hP hD [3] [0, 1, 2] rfl rfl (by decide) (by decide) hk1 hFc hP1 hD1
  generalize H1 = H at hP hS ⊢
  have hP : va_P (dC, dI) vwCl [(d, .inr (1, [.ref h, .ref y, .ref q_1, .int 0, .int 0, .ref q_3, .null, .int 0])), (q_1, .inl (k_2, 40, .inr (.inr (.inr (.inr fa32))))), (q_3, .inl (k_4, 3020, .inl (fun _ => 0))), (q_369, .inr (2, [.int 0, .int 0, .int 0, .ref q3_371, .int 0, .ref q5_372, .int 0, .int 0, .int 0, .int 0, .ref q10_373, .ref q11_374, .ref q12_375, .ref q13_376, .ref q14_377, .ref q15_378, .int 0, .int 0, .int 0, .int 0, .int 0, .int 0]))] H := hP
  have hD : va_D A [(d, .inr (1, [.ref h, .ref y, .ref q_1, .int 0, .int 0, .ref q_3, .null, .int 0])), (q_1, .inl (k_2, 40, .inr (.inr (.inr (.inr fa32))))), (q_3, .inl (k_4, 3020, .inl (fun _ => 0))), (q_369, .inr (2, [.int 0, .int 0, .int 0, .ref q3_371, .int 0, .ref q5_372, .int 0, .int 0, .int 0, .int 0, .ref q10_373, .ref q11_374, .ref q12_375, .ref q13_376, .ref q14_377, .ref q15_378, .int 0, .int 0, .int 0, .int 0, .int 0, .int 0]))] := hD
  have hK : va_K (dC, dI) vwCl [(k_2, .object RX2), (k_4, .int)] s := hK
  refine W.widen (k := 308) (n := 12648) (by omega) (by omega) ?_
  refine va_astq hx hb hK hP hD hS 1 0 3 2 rfl rfl rfl rfl (by unfold vp_in; decide) dX1_init_52 (fun H locs hP hD hS => ?_)
  have hP : va_P (dC, dI) vwCl [(d, .inr (1, [.ref h, .ref y, .ref q_1, .int 0, .int 0, .ref q_3, .null, .int 0])), (q_1, .inl (k_2, 40, .inr (.inr (.inr (.inr (va_up fa32 (33 : Int32).toNatClampNeg (some q_369))))))), (q_3, .inl (k_4, 3020, .inl (fun _ => 0))), (q_369, .inr (2, [.int 0, .int 0, .int 0, .ref q3_371, .int 0, .ref q5_372, .int 0, .int 0, .int 0, .int 0, .ref q10_373, .ref q11_374, .ref q12_375, .ref q13_376, .ref q14_377, .ref q15_378, .int 0, .int 0, .int 0, .int 0, .int 0, .int 0]))] H := hP
  have hD : va_D A [(d, .inr (1, [.ref h, .ref y, .ref q_1, .int 0, .int 0, .ref q_3, .null, .int 0])), (q_1, .inl (k_2, 40, .inr (.inr (.inr (.inr (va_up fa32 (33 : Int32).toNatClampNeg (some q_369))))))), (q_3, .inl (k_4, 3020, .inl (fun _ => 0))), (q_369, .inr (2, [.int 0, .int 0, .int 0, .ref q3_371, .int 0, .ref q5_372, .int 0, .int 0, .int 0, .int 0, .ref q10_373, .ref q11_374, .ref q12_375, .ref q13_376, .ref q14_377, .ref q15_378, .int 0, .int 0, .int 0, .int 0, .int 0, .int 0]))] := hD
  obtain ⟨fa33, efa33⟩ : ∃ z : Nat → Option Nat, z = va_up fa32 (33 : Int32).toNatClampNeg (some q_369) := ⟨_, rfl⟩
  rw [← efa33] at hP hD
  have hP := hP.sub (ws' := [(d, .inr (1, [.ref h, .ref y, .ref q_1, .int 0, .int 0, .ref q_3, .null, .int 0])), (q_1, .inl (k_2, 40, .inr (.inr (.inr (.inr fa33))))), (q_3, .inl (k_4, 3020, .inl (fun _ => 0)))]) [0, 1, 2] rfl
  have hD := hD.sub (ws' := [(d, .inr (1, [.ref h, .ref y, .ref q_1, .int 0, .int 0, .ref q_3, .null, .int 0])), (q_1, .inl (k_2, 40, .inr (.inr (.inr (.inr fa33))))), (q_3, .inl (k_4, 3020, .inl (fun _ => 0)))]) [0, 1, 2] (by decide) rfl
  have hK := hK.sub (tys' := [(k_2, .object RX2), (k_4, .int)]) [0, 1] rfl
  refine lv_iinc (v := 34) (lv' := [(3, .int 34), (0, .ref d), (1, .ref h), (2, .ref y)]) hx hb dX1_init_53 hl (k := 0) rfl (by decide) (by decide) rfl (fun ls hl => ?_)
  refine lv_goto (tgt := 34) hx hb dX1_init_56 (by decide) ?_
  refine lv_iload_n hx hb dX1_init_34 rfl (lv_at hl 0 rfl) ?_
  refine lv_bipush (v := 40) hx hb dX1_init_35 (by decide) ?_
  refine lv_icmp_ge (tgt := 59) hx hb dX1_init_37 (by decide) (fun c_379 => absurd c_379 (by decide)) (fun _ => ?_)
  refine lv_aload_n hx hb dX1_init_40 rfl (lv_at hl 1 rfl) ?_
  refine va_get (D := (dC, dI)) (ci := 1) (v := .ref q_1) (C := RX1) (T := TX1) (N := 8) hx hb hts in_c_decl_X1 hown hK hP 0 rfl rfl 2 (by decide) (hts (.fieldLink RX1 11 "OwnedPlaces$Declarations" "functions" "[LOwnedPlaces$Function;") (wm_c_decl 5 rfl)) (fun _ h9 => h9) rfl dX1_init_41 ?_
  refine lv_iload_n hx hb dX1_init_44 rfl (lv_at hl 0 rfl) ?_
  refine va_new (ci := 2) (fs := [.int 0, .int 0, .int 0, .null, .int 0, .null, .int 0, .int 0, .int 0, .int 0, .null, .null, .null, .null, .null, .null, .int 0, .int 0, .int 0, .int 0, .int 0, .int 0]) (C := RX2) (T := TX2) (N := 22) hx hb hts in_c_decl_X2 tyX2 tyX2_ok hown (hts (.classLink RX1 9 RX2) (wm_c_decl 4 rfl)) (hts (.instantiable RX2 22) (wm_c_decl 10 rfl)) (hts (.initialized RX2) (wm_c_decl 11 rfl)) hK hP hD hS hA rfl dv_X2 (show 308 + 1 ≤ 362 by omega) (show 12648 + 22 ≤ 14340 by omega) dX1_init_45 (fun q_380 H hP hD hS => ?_)
  have hP : va_P (dC, dI) vwCl [(d, .inr (1, [.ref h, .ref y, .ref q_1, .int 0, .int 0, .ref q_3, .null, .int 0])), (q_1, .inl (k_2, 40, .inr (.inr (.inr (.inr fa33))))), (q_3, .inl (k_4, 3020, .inl (fun _ => 0))), (q_380, .inr (2, [.int 0, .int 0, .int 0, .null, .int 0, .null, .int 0, .int 0, .int 0, .int 0, .null, .null, .null, .null, .null, .null, .int 0, .int 0, .int 0, .int 0, .int 0, .int 0]))] H := hP
  have hD : va_D A [(d, .inr (1, [.ref h, .ref y, .ref q_1, .int 0, .int 0, .ref q_3, .null, .int 0])), (q_1, .inl (k_2, 40, .inr (.inr (.inr (.inr fa33))))), (q_3, .inl (k_4, 3020, .inl (fun _ => 0))), (q_380, .inr (2, [.int 0, .int 0, .int 0, .null, .int 0, .null, .int 0, .int 0, .int 0, .int 0, .null, .null, .null, .null, .null, .null, .int 0, .int 0, .int 0, .int 0, .int 0, .int 0]))] := hD
  refine W.widen (k := 309) (n := 12670) (by omega) (by omega) ?_
  refine lv_dup hx hb dX1_init_48 rfl ?_
  have hPc := hP.sub (ws' := [(q_380, .inr (2, [.int 0, .int 0, .int 0, .null, .int 0, .null, .int 0, .int 0, .int 0, .int 0, .null, .null, .null, .null, .null, .null, .int 0, .int 0, .int 0, .int 0, .int 0, .int 0]))]) [3] rfl
  have hDc := hD.sub (ws' := [(q_380, .inr (2, [.int 0, .int 0, .int 0, .null, .int 0, .null, .int 0, .int 0, .int 0, .int 0, .null, .null, .null, .null, .null, .null, .int 0, .int 0, .int 0, .int 0, .int 0, .int 0]))]) [3] (by decide) rfl
  have hKc := hK.sub (tys' := []) [] rfl
  have hFc := va_free (wc := [(q_380, .inr (2, [.int 0, .int 0, .int 0, .null, .int 0, .null, .int 0, .int 0, .int 0, .int 0, .null, .null, .null, .null, .null, .null, .int 0, .int 0, .int 0, .int 0, .int 0, .int 0]))]) hD hS hA [3] rfl
  refine va_callv (va_runIN (As := []) (rest := [.ref q_380, .int 34, .ref q_1]) ⟨hx, hb, hml, hown, hts⟩ (c_function l dC dI q_380 H.size) ⟨va_cnB 0 hts g_c_decl_c_function_49 rfl rfl rfl hpre0 (hts (.initialized RX2) (wm_c_decl 11 rfl)) (by decide +kernel) ⟨Nat.le_of_ble_eq_true rfl, Nat.le_of_ble_eq_true rfl⟩, rfl, (hts (.instanceMethod yX2_init) (wm_c_decl 23 rfl))⟩ ⟨fun a U g mk q => by obtain ⟨q0, q1, qP, qK, qD⟩ := q; exact ⟨q0, q1, qP, va_K.moved (u := U) (U := U.calling g mk a) (Vm.Alike.refl U.vm) qK, qD⟩, fun U hU hW => ⟨rfl, by rw [hU], by rw [hU]; exact hPc, va_K.moved hW.alike hKc, hDc.weaken (fun _ _ _ _ => trivial)⟩⟩ rfl rfl hl.1 rfl (lv_room (Nat.le_of_ble_eq_true rfl)) dX1_init_49 ⟨(show 309 + 8 ≤ 362 by omega), (show 12670 + 260 ≤ 14340 by omega)⟩) hS (fun q _ h => hFc q h) hFc (fun u tS H1 locs ht hvm hw hB hz1 hk1 hS => ?_)
  obtain ⟨q3_382, q5_383, q10_384, q11_385, q12_386, q13_387, q14_388, q15_389, hP1, hK1, hD1⟩ := hB
  rw [ht] at hP1
  have hK1 := va_K.moved hvm.symm hK1
  obtain ⟨hP, hD⟩ := va_join (wr := [(d, .inr (1, [.ref h, .ref y, .ref q_1, .int 0, .int 0, .ref q_3, .null, .int 0])), (q_1, .inl (k_2, 40, .inr (.inr (.inr (.inr fa33))))), (q_3, .inl (k_4, 3020, .inl (fun _ => 0)))]) (w1 := [(q_380, .inr (2, [.int 0, .int 0, .int 0, .ref q3_382, .int 0, .ref q5_383, .int 0, .int 0, .int 0, .int 0, .ref q10_384, .ref q11_385, .ref q12_386, .ref q13_387, .ref q14_388, .ref q15_389, .int 0, .int 0, .int 0, .int 0, .int 0, .int 0]))]) hP hD [3] [0, 1, 2] rfl rfl (by decide) (by decide) hk1 hFc hP1 hD1
  generalize H1 = H at hP hS ⊢
  have hP : va_P (dC, dI) vwCl [(d, .inr (1, [.ref h, .ref y, .ref q_1, .int 0, .int 0, .ref q_3, .null, .int 0])), (q_1, .inl (k_2, 40, .inr (.inr (.inr (.inr fa33))))), (q_3, .inl (k_4, 3020, .inl (fun _ => 0))), (q_380, .inr (2, [.int 0, .int 0, .int 0, .ref q3_382, .int 0, .ref q5_383, .int 0, .int 0, .int 0, .int 0, .ref q10_384, .ref q11_385, .ref q12_386, .ref q13_387, .ref q14_388, .ref q15_389, .int 0, .int 0, .int 0, .int 0, .int 0, .int 0]))] H := hP
  have hD : va_D A [(d, .inr (1, [.ref h, .ref y, .ref q_1, .int 0, .int 0, .ref q_3, .null, .int 0])), (q_1, .inl (k_2, 40, .inr (.inr (.inr (.inr fa33))))), (q_3, .inl (k_4, 3020, .inl (fun _ => 0))), (q_380, .inr (2, [.int 0, .int 0, .int 0, .ref q3_382, .int 0, .ref q5_383, .int 0, .int 0, .int 0, .int 0, .ref q10_384, .ref q11_385, .ref q12_386, .ref q13_387, .ref q14_388, .ref q15_389, .int 0, .int 0, .int 0, .int 0, .int 0, .int 0]))] := hD
  have hK : va_K (dC, dI) vwCl [(k_2, .object RX2), (k_4, .int)] s := hK
  refine W.widen (k := 317) (n := 12930) (by omega) (by omega) ?_
  refine va_astq hx hb hK hP hD hS 1 0 3 2 rfl rfl rfl rfl (by unfold vp_in; decide) dX1_init_52 (fun H locs hP hD hS => ?_)
  have hP : va_P (dC, dI) vwCl [(d, .inr (1, [.ref h, .ref y, .ref q_1, .int 0, .int 0, .ref q_3, .null, .int 0])), (q_1, .inl (k_2, 40, .inr (.inr (.inr (.inr (va_up fa33 (34 : Int32).toNatClampNeg (some q_380))))))), (q_3, .inl (k_4, 3020, .inl (fun _ => 0))), (q_380, .inr (2, [.int 0, .int 0, .int 0, .ref q3_382, .int 0, .ref q5_383, .int 0, .int 0, .int 0, .int 0, .ref q10_384, .ref q11_385, .ref q12_386, .ref q13_387, .ref q14_388, .ref q15_389, .int 0, .int 0, .int 0, .int 0, .int 0, .int 0]))] H := hP
  have hD : va_D A [(d, .inr (1, [.ref h, .ref y, .ref q_1, .int 0, .int 0, .ref q_3, .null, .int 0])), (q_1, .inl (k_2, 40, .inr (.inr (.inr (.inr (va_up fa33 (34 : Int32).toNatClampNeg (some q_380))))))), (q_3, .inl (k_4, 3020, .inl (fun _ => 0))), (q_380, .inr (2, [.int 0, .int 0, .int 0, .ref q3_382, .int 0, .ref q5_383, .int 0, .int 0, .int 0, .int 0, .ref q10_384, .ref q11_385, .ref q12_386, .ref q13_387, .ref q14_388, .ref q15_389, .int 0, .int 0, .int 0, .int 0, .int 0, .int 0]))] := hD
  obtain ⟨fa34, efa34⟩ : ∃ z : Nat → Option Nat, z = va_up fa33 (34 : Int32).toNatClampNeg (some q_380) := ⟨_, rfl⟩
  rw [← efa34] at hP hD
  have hP := hP.sub (ws' := [(d, .inr (1, [.ref h, .ref y, .ref q_1, .int 0, .int 0, .ref q_3, .null, .int 0])), (q_1, .inl (k_2, 40, .inr (.inr (.inr (.inr fa34))))), (q_3, .inl (k_4, 3020, .inl (fun _ => 0)))]) [0, 1, 2] rfl
  have hD := hD.sub (ws' := [(d, .inr (1, [.ref h, .ref y, .ref q_1, .int 0, .int 0, .ref q_3, .null, .int 0])), (q_1, .inl (k_2, 40, .inr (.inr (.inr (.inr fa34))))), (q_3, .inl (k_4, 3020, .inl (fun _ => 0)))]) [0, 1, 2] (by decide) rfl
  have hK := hK.sub (tys' := [(k_2, .object RX2), (k_4, .int)]) [0, 1] rfl
  refine lv_iinc (v := 35) (lv' := [(3, .int 35), (0, .ref d), (1, .ref h), (2, .ref y)]) hx hb dX1_init_53 hl (k := 0) rfl (by decide) (by decide) rfl (fun ls hl => ?_)
  refine lv_goto (tgt := 34) hx hb dX1_init_56 (by decide) ?_
  refine lv_iload_n hx hb dX1_init_34 rfl (lv_at hl 0 rfl) ?_
  refine lv_bipush (v := 40) hx hb dX1_init_35 (by decide) ?_
  refine lv_icmp_ge (tgt := 59) hx hb dX1_init_37 (by decide) (fun c_390 => absurd c_390 (by decide)) (fun _ => ?_)
  refine lv_aload_n hx hb dX1_init_40 rfl (lv_at hl 1 rfl) ?_
  refine va_get (D := (dC, dI)) (ci := 1) (v := .ref q_1) (C := RX1) (T := TX1) (N := 8) hx hb hts in_c_decl_X1 hown hK hP 0 rfl rfl 2 (by decide) (hts (.fieldLink RX1 11 "OwnedPlaces$Declarations" "functions" "[LOwnedPlaces$Function;") (wm_c_decl 5 rfl)) (fun _ h9 => h9) rfl dX1_init_41 ?_
  refine lv_iload_n hx hb dX1_init_44 rfl (lv_at hl 0 rfl) ?_
  refine va_new (ci := 2) (fs := [.int 0, .int 0, .int 0, .null, .int 0, .null, .int 0, .int 0, .int 0, .int 0, .null, .null, .null, .null, .null, .null, .int 0, .int 0, .int 0, .int 0, .int 0, .int 0]) (C := RX2) (T := TX2) (N := 22) hx hb hts in_c_decl_X2 tyX2 tyX2_ok hown (hts (.classLink RX1 9 RX2) (wm_c_decl 4 rfl)) (hts (.instantiable RX2 22) (wm_c_decl 10 rfl)) (hts (.initialized RX2) (wm_c_decl 11 rfl)) hK hP hD hS hA rfl dv_X2 (show 317 + 1 ≤ 362 by omega) (show 12930 + 22 ≤ 14340 by omega) dX1_init_45 (fun q_391 H hP hD hS => ?_)
  have hP : va_P (dC, dI) vwCl [(d, .inr (1, [.ref h, .ref y, .ref q_1, .int 0, .int 0, .ref q_3, .null, .int 0])), (q_1, .inl (k_2, 40, .inr (.inr (.inr (.inr fa34))))), (q_3, .inl (k_4, 3020, .inl (fun _ => 0))), (q_391, .inr (2, [.int 0, .int 0, .int 0, .null, .int 0, .null, .int 0, .int 0, .int 0, .int 0, .null, .null, .null, .null, .null, .null, .int 0, .int 0, .int 0, .int 0, .int 0, .int 0]))] H := hP
  have hD : va_D A [(d, .inr (1, [.ref h, .ref y, .ref q_1, .int 0, .int 0, .ref q_3, .null, .int 0])), (q_1, .inl (k_2, 40, .inr (.inr (.inr (.inr fa34))))), (q_3, .inl (k_4, 3020, .inl (fun _ => 0))), (q_391, .inr (2, [.int 0, .int 0, .int 0, .null, .int 0, .null, .int 0, .int 0, .int 0, .int 0, .null, .null, .null, .null, .null, .null, .int 0, .int 0, .int 0, .int 0, .int 0, .int 0]))] := hD
  refine W.widen (k := 318) (n := 12952) (by omega) (by omega) ?_
  refine lv_dup hx hb dX1_init_48 rfl ?_
  have hPc := hP.sub (ws' := [(q_391, .inr (2, [.int 0, .int 0, .int 0, .null, .int 0, .null, .int 0, .int 0, .int 0, .int 0, .null, .null, .null, .null, .null, .null, .int 0, .int 0, .int 0, .int 0, .int 0, .int 0]))]) [3] rfl
  have hDc := hD.sub (ws' := [(q_391, .inr (2, [.int 0, .int 0, .int 0, .null, .int 0, .null, .int 0, .int 0, .int 0, .int 0, .null, .null, .null, .null, .null, .null, .int 0, .int 0, .int 0, .int 0, .int 0, .int 0]))]) [3] (by decide) rfl
  have hKc := hK.sub (tys' := []) [] rfl
  have hFc := va_free (wc := [(q_391, .inr (2, [.int 0, .int 0, .int 0, .null, .int 0, .null, .int 0, .int 0, .int 0, .int 0, .null, .null, .null, .null, .null, .null, .int 0, .int 0, .int 0, .int 0, .int 0, .int 0]))]) hD hS hA [3] rfl
  refine va_callv (va_runIN (As := []) (rest := [.ref q_391, .int 35, .ref q_1]) ⟨hx, hb, hml, hown, hts⟩ (c_function l dC dI q_391 H.size) ⟨va_cnB 0 hts g_c_decl_c_function_49 rfl rfl rfl hpre0 (hts (.initialized RX2) (wm_c_decl 11 rfl)) (by decide +kernel) ⟨Nat.le_of_ble_eq_true rfl, Nat.le_of_ble_eq_true rfl⟩, rfl, (hts (.instanceMethod yX2_init) (wm_c_decl 23 rfl))⟩ ⟨fun a U g mk q => by obtain ⟨q0, q1, qP, qK, qD⟩ := q; exact ⟨q0, q1, qP, va_K.moved (u := U) (U := U.calling g mk a) (Vm.Alike.refl U.vm) qK, qD⟩, fun U hU hW => ⟨rfl, by rw [hU], by rw [hU]; exact hPc, va_K.moved hW.alike hKc, hDc.weaken (fun _ _ _ _ => trivial)⟩⟩ rfl rfl hl.1 rfl (lv_room (Nat.le_of_ble_eq_true rfl)) dX1_init_49 ⟨(show 318 + 8 ≤ 362 by omega), (show 12952 + 260 ≤ 14340 by omega)⟩) hS (fun q _ h => hFc q h) hFc (fun u tS H1 locs ht hvm hw hB hz1 hk1 hS => ?_)
  obtain ⟨q3_393, q5_394, q10_395, q11_396, q12_397, q13_398, q14_399, q15_400, hP1, hK1, hD1⟩ := hB
  rw [ht] at hP1
  have hK1 := va_K.moved hvm.symm hK1
  obtain ⟨hP, hD⟩ := va_join (wr := [(d, .inr (1, [.ref h, .ref y, .ref q_1, .int 0, .int 0, .ref q_3, .null, .int 0])), (q_1, .inl (k_2, 40, .inr (.inr (.inr (.inr fa34))))), (q_3, .inl (k_4, 3020, .inl (fun _ => 0)))]) (w1 := [(q_391, .inr (2, [.int 0, .int 0, .int 0, .ref q3_393, .int 0, .ref q5_394, .int 0, .int 0, .int 0, .int 0, .ref q10_395, .ref q11_396, .ref q12_397, .ref q13_398, .ref q14_399, .ref q15_400, .int 0, .int 0, .int 0, .int 0, .int 0, .int 0]))]) hP hD [3] [0, 1, 2] rfl rfl (by decide) (by decide) hk1 hFc hP1 hD1
  generalize H1 = H at hP hS ⊢
  have hP : va_P (dC, dI) vwCl [(d, .inr (1, [.ref h, .ref y, .ref q_1, .int 0, .int 0, .ref q_3, .null, .int 0])), (q_1, .inl (k_2, 40, .inr (.inr (.inr (.inr fa34))))), (q_3, .inl (k_4, 3020, .inl (fun _ => 0))), (q_391, .inr (2, [.int 0, .int 0, .int 0, .ref q3_393, .int 0, .ref q5_394, .int 0, .int 0, .int 0, .int 0, .ref q10_395, .ref q11_396, .ref q12_397, .ref q13_398, .ref q14_399, .ref q15_400, .int 0, .int 0, .int 0, .int 0, .int 0, .int 0]))] H := hP
  have hD : va_D A [(d, .inr (1, [.ref h, .ref y, .ref q_1, .int 0, .int 0, .ref q_3, .null, .int 0])), (q_1, .inl (k_2, 40, .inr (.inr (.inr (.inr fa34))))), (q_3, .inl (k_4, 3020, .inl (fun _ => 0))), (q_391, .inr (2, [.int 0, .int 0, .int 0, .ref q3_393, .int 0, .ref q5_394, .int 0, .int 0, .int 0, .int 0, .ref q10_395, .ref q11_396, .ref q12_397, .ref q13_398, .ref q14_399, .ref q15_400, .int 0, .int 0, .int 0, .int 0, .int 0, .int 0]))] := hD
  have hK : va_K (dC, dI) vwCl [(k_2, .object RX2), (k_4, .int)] s := hK
  refine W.widen (k := 326) (n := 13212) (by omega) (by omega) ?_
  refine va_astq hx hb hK hP hD hS 1 0 3 2 rfl rfl rfl rfl (by unfold vp_in; decide) dX1_init_52 (fun H locs hP hD hS => ?_)
  have hP : va_P (dC, dI) vwCl [(d, .inr (1, [.ref h, .ref y, .ref q_1, .int 0, .int 0, .ref q_3, .null, .int 0])), (q_1, .inl (k_2, 40, .inr (.inr (.inr (.inr (va_up fa34 (35 : Int32).toNatClampNeg (some q_391))))))), (q_3, .inl (k_4, 3020, .inl (fun _ => 0))), (q_391, .inr (2, [.int 0, .int 0, .int 0, .ref q3_393, .int 0, .ref q5_394, .int 0, .int 0, .int 0, .int 0, .ref q10_395, .ref q11_396, .ref q12_397, .ref q13_398, .ref q14_399, .ref q15_400, .int 0, .int 0, .int 0, .int 0, .int 0, .int 0]))] H := hP
  have hD : va_D A [(d, .inr (1, [.ref h, .ref y, .ref q_1, .int 0, .int 0, .ref q_3, .null, .int 0])), (q_1, .inl (k_2, 40, .inr (.inr (.inr (.inr (va_up fa34 (35 : Int32).toNatClampNeg (some q_391))))))), (q_3, .inl (k_4, 3020, .inl (fun _ => 0))), (q_391, .inr (2, [.int 0, .int 0, .int 0, .ref q3_393, .int 0, .ref q5_394, .int 0, .int 0, .int 0, .int 0, .ref q10_395, .ref q11_396, .ref q12_397, .ref q13_398, .ref q14_399, .ref q15_400, .int 0, .int 0, .int 0, .int 0, .int 0, .int 0]))] := hD
  obtain ⟨fa35, efa35⟩ : ∃ z : Nat → Option Nat, z = va_up fa34 (35 : Int32).toNatClampNeg (some q_391) := ⟨_, rfl⟩
  rw [← efa35] at hP hD
  have hP := hP.sub (ws' := [(d, .inr (1, [.ref h, .ref y, .ref q_1, .int 0, .int 0, .ref q_3, .null, .int 0])), (q_1, .inl (k_2, 40, .inr (.inr (.inr (.inr fa35))))), (q_3, .inl (k_4, 3020, .inl (fun _ => 0)))]) [0, 1, 2] rfl
  have hD := hD.sub (ws' := [(d, .inr (1, [.ref h, .ref y, .ref q_1, .int 0, .int 0, .ref q_3, .null, .int 0])), (q_1, .inl (k_2, 40, .inr (.inr (.inr (.inr fa35))))), (q_3, .inl (k_4, 3020, .inl (fun _ => 0)))]) [0, 1, 2] (by decide) rfl
  have hK := hK.sub (tys' := [(k_2, .object RX2), (k_4, .int)]) [0, 1] rfl
  refine lv_iinc (v := 36) (lv' := [(3, .int 36), (0, .ref d), (1, .ref h), (2, .ref y)]) hx hb dX1_init_53 hl (k := 0) rfl (by decide) (by decide) rfl (fun ls hl => ?_)
  refine lv_goto (tgt := 34) hx hb dX1_init_56 (by decide) ?_
  refine lv_iload_n hx hb dX1_init_34 rfl (lv_at hl 0 rfl) ?_
  refine lv_bipush (v := 40) hx hb dX1_init_35 (by decide) ?_
  refine lv_icmp_ge (tgt := 59) hx hb dX1_init_37 (by decide) (fun c_401 => absurd c_401 (by decide)) (fun _ => ?_)
  refine lv_aload_n hx hb dX1_init_40 rfl (lv_at hl 1 rfl) ?_
  refine va_get (D := (dC, dI)) (ci := 1) (v := .ref q_1) (C := RX1) (T := TX1) (N := 8) hx hb hts in_c_decl_X1 hown hK hP 0 rfl rfl 2 (by decide) (hts (.fieldLink RX1 11 "OwnedPlaces$Declarations" "functions" "[LOwnedPlaces$Function;") (wm_c_decl 5 rfl)) (fun _ h9 => h9) rfl dX1_init_41 ?_
  refine lv_iload_n hx hb dX1_init_44 rfl (lv_at hl 0 rfl) ?_
  refine va_new (ci := 2) (fs := [.int 0, .int 0, .int 0, .null, .int 0, .null, .int 0, .int 0, .int 0, .int 0, .null, .null, .null, .null, .null, .null, .int 0, .int 0, .int 0, .int 0, .int 0, .int 0]) (C := RX2) (T := TX2) (N := 22) hx hb hts in_c_decl_X2 tyX2 tyX2_ok hown (hts (.classLink RX1 9 RX2) (wm_c_decl 4 rfl)) (hts (.instantiable RX2 22) (wm_c_decl 10 rfl)) (hts (.initialized RX2) (wm_c_decl 11 rfl)) hK hP hD hS hA rfl dv_X2 (show 326 + 1 ≤ 362 by omega) (show 13212 + 22 ≤ 14340 by omega) dX1_init_45 (fun q_402 H hP hD hS => ?_)
  have hP : va_P (dC, dI) vwCl [(d, .inr (1, [.ref h, .ref y, .ref q_1, .int 0, .int 0, .ref q_3, .null, .int 0])), (q_1, .inl (k_2, 40, .inr (.inr (.inr (.inr fa35))))), (q_3, .inl (k_4, 3020, .inl (fun _ => 0))), (q_402, .inr (2, [.int 0, .int 0, .int 0, .null, .int 0, .null, .int 0, .int 0, .int 0, .int 0, .null, .null, .null, .null, .null, .null, .int 0, .int 0, .int 0, .int 0, .int 0, .int 0]))] H := hP
  have hD : va_D A [(d, .inr (1, [.ref h, .ref y, .ref q_1, .int 0, .int 0, .ref q_3, .null, .int 0])), (q_1, .inl (k_2, 40, .inr (.inr (.inr (.inr fa35))))), (q_3, .inl (k_4, 3020, .inl (fun _ => 0))), (q_402, .inr (2, [.int 0, .int 0, .int 0, .null, .int 0, .null, .int 0, .int 0, .int 0, .int 0, .null, .null, .null, .null, .null, .null, .int 0, .int 0, .int 0, .int 0, .int 0, .int 0]))] := hD
  refine W.widen (k := 327) (n := 13234) (by omega) (by omega) ?_
  refine lv_dup hx hb dX1_init_48 rfl ?_
  have hPc := hP.sub (ws' := [(q_402, .inr (2, [.int 0, .int 0, .int 0, .null, .int 0, .null, .int 0, .int 0, .int 0, .int 0, .null, .null, .null, .null, .null, .null, .int 0, .int 0, .int 0, .int 0, .int 0, .int 0]))]) [3] rfl
  have hDc := hD.sub (ws' := [(q_402, .inr (2, [.int 0, .int 0, .int 0, .null, .int 0, .null, .int 0, .int 0, .int 0, .int 0, .null, .null, .null, .null, .null, .null, .int 0, .int 0, .int 0, .int 0, .int 0, .int 0]))]) [3] (by decide) rfl
  have hKc := hK.sub (tys' := []) [] rfl
  have hFc := va_free (wc := [(q_402, .inr (2, [.int 0, .int 0, .int 0, .null, .int 0, .null, .int 0, .int 0, .int 0, .int 0, .null, .null, .null, .null, .null, .null, .int 0, .int 0, .int 0, .int 0, .int 0, .int 0]))]) hD hS hA [3] rfl
  refine va_callv (va_runIN (As := []) (rest := [.ref q_402, .int 36, .ref q_1]) ⟨hx, hb, hml, hown, hts⟩ (c_function l dC dI q_402 H.size) ⟨va_cnB 0 hts g_c_decl_c_function_49 rfl rfl rfl hpre0 (hts (.initialized RX2) (wm_c_decl 11 rfl)) (by decide +kernel) ⟨Nat.le_of_ble_eq_true rfl, Nat.le_of_ble_eq_true rfl⟩, rfl, (hts (.instanceMethod yX2_init) (wm_c_decl 23 rfl))⟩ ⟨fun a U g mk q => by obtain ⟨q0, q1, qP, qK, qD⟩ := q; exact ⟨q0, q1, qP, va_K.moved (u := U) (U := U.calling g mk a) (Vm.Alike.refl U.vm) qK, qD⟩, fun U hU hW => ⟨rfl, by rw [hU], by rw [hU]; exact hPc, va_K.moved hW.alike hKc, hDc.weaken (fun _ _ _ _ => trivial)⟩⟩ rfl rfl hl.1 rfl (lv_room (Nat.le_of_ble_eq_true rfl)) dX1_init_49 ⟨(show 327 + 8 ≤ 362 by omega), (show 13234 + 260 ≤ 14340 by omega)⟩) hS (fun q _ h => hFc q h) hFc (fun u tS H1 locs ht hvm hw hB hz1 hk1 hS => ?_)
  obtain ⟨q3_404, q5_405, q10_406, q11_407, q12_408, q13_409, q14_410, q15_411, hP1, hK1, hD1⟩ := hB
  rw [ht] at hP1
  have hK1 := va_K.moved hvm.symm hK1
  obtain ⟨hP, hD⟩ := va_join (wr := [(d, .inr (1, [.ref h, .ref y, .ref q_1, .int 0, .int 0, .ref q_3, .null, .int 0])), (q_1, .inl (k_2, 40, .inr (.inr (.inr (.inr fa35))))), (q_3, .inl (k_4, 3020, .inl (fun _ => 0)))]) (w1 := [(q_402, .inr (2, [.int 0, .int 0, .int 0, .ref q3_404, .int 0, .ref q5_405, .int 0, .int 0, .int 0, .int 0, .ref q10_406, .ref q11_407, .ref q12_408, .ref q13_409, .ref q14_410, .ref q15_411, .int 0, .int 0, .int 0, .int 0, .int 0, .int 0]))]) hP hD [3] [0, 1, 2] rfl rfl (by decide) (by decide) hk1 hFc hP1 hD1
  generalize H1 = H at hP hS ⊢
  have hP : va_P (dC, dI) vwCl [(d, .inr (1, [.ref h, .ref y, .ref q_1, .int 0, .int 0, .ref q_3, .null, .int 0])), (q_1, .inl (k_2, 40, .inr (.inr (.inr (.inr fa35))))), (q_3, .inl (k_4, 3020, .inl (fun _ => 0))), (q_402, .inr (2, [.int 0, .int 0, .int 0, .ref q3_404, .int 0, .ref q5_405, .int 0, .int 0, .int 0, .int 0, .ref q10_406, .ref q11_407, .ref q12_408, .ref q13_409, .ref q14_410, .ref q15_411, .int 0, .int 0, .int 0, .int 0, .int 0, .int 0]))] H := hP
  have hD : va_D A [(d, .inr (1, [.ref h, .ref y, .ref q_1, .int 0, .int 0, .ref q_3, .null, .int 0])), (q_1, .inl (k_2, 40, .inr (.inr (.inr (.inr fa35))))), (q_3, .inl (k_4, 3020, .inl (fun _ => 0))), (q_402, .inr (2, [.int 0, .int 0, .int 0, .ref q3_404, .int 0, .ref q5_405, .int 0, .int 0, .int 0, .int 0, .ref q10_406, .ref q11_407, .ref q12_408, .ref q13_409, .ref q14_410, .ref q15_411, .int 0, .int 0, .int 0, .int 0, .int 0, .int 0]))] := hD
  have hK : va_K (dC, dI) vwCl [(k_2, .object RX2), (k_4, .int)] s := hK
  refine W.widen (k := 335) (n := 13494) (by omega) (by omega) ?_
  refine va_astq hx hb hK hP hD hS 1 0 3 2 rfl rfl rfl rfl (by unfold vp_in; decide) dX1_init_52 (fun H locs hP hD hS => ?_)
  have hP : va_P (dC, dI) vwCl [(d, .inr (1, [.ref h, .ref y, .ref q_1, .int 0, .int 0, .ref q_3, .null, .int 0])), (q_1, .inl (k_2, 40, .inr (.inr (.inr (.inr (va_up fa35 (36 : Int32).toNatClampNeg (some q_402))))))), (q_3, .inl (k_4, 3020, .inl (fun _ => 0))), (q_402, .inr (2, [.int 0, .int 0, .int 0, .ref q3_404, .int 0, .ref q5_405, .int 0, .int 0, .int 0, .int 0, .ref q10_406, .ref q11_407, .ref q12_408, .ref q13_409, .ref q14_410, .ref q15_411, .int 0, .int 0, .int 0, .int 0, .int 0, .int 0]))] H := hP
  have hD : va_D A [(d, .inr (1, [.ref h, .ref y, .ref q_1, .int 0, .int 0, .ref q_3, .null, .int 0])), (q_1, .inl (k_2, 40, .inr (.inr (.inr (.inr (va_up fa35 (36 : Int32).toNatClampNeg (some q_402))))))), (q_3, .inl (k_4, 3020, .inl (fun _ => 0))), (q_402, .inr (2, [.int 0, .int 0, .int 0, .ref q3_404, .int 0, .ref q5_405, .int 0, .int 0, .int 0, .int 0, .ref q10_406, .ref q11_407, .ref q12_408, .ref q13_409, .ref q14_410, .ref q15_411, .int 0, .int 0, .int 0, .int 0, .int 0, .int 0]))] := hD
  obtain ⟨fa36, efa36⟩ : ∃ z : Nat → Option Nat, z = va_up fa35 (36 : Int32).toNatClampNeg (some q_402) := ⟨_, rfl⟩
  rw [← efa36] at hP hD
  have hP := hP.sub (ws' := [(d, .inr (1, [.ref h, .ref y, .ref q_1, .int 0, .int 0, .ref q_3, .null, .int 0])), (q_1, .inl (k_2, 40, .inr (.inr (.inr (.inr fa36))))), (q_3, .inl (k_4, 3020, .inl (fun _ => 0)))]) [0, 1, 2] rfl
  have hD := hD.sub (ws' := [(d, .inr (1, [.ref h, .ref y, .ref q_1, .int 0, .int 0, .ref q_3, .null, .int 0])), (q_1, .inl (k_2, 40, .inr (.inr (.inr (.inr fa36))))), (q_3, .inl (k_4, 3020, .inl (fun _ => 0)))]) [0, 1, 2] (by decide) rfl
  have hK := hK.sub (tys' := [(k_2, .object RX2), (k_4, .int)]) [0, 1] rfl
  refine lv_iinc (v := 37) (lv' := [(3, .int 37), (0, .ref d), (1, .ref h), (2, .ref y)]) hx hb dX1_init_53 hl (k := 0) rfl (by decide) (by decide) rfl (fun ls hl => ?_)
  refine lv_goto (tgt := 34) hx hb dX1_init_56 (by decide) ?_
  refine lv_iload_n hx hb dX1_init_34 rfl (lv_at hl 0 rfl) ?_
  refine lv_bipush (v := 40) hx hb dX1_init_35 (by decide) ?_
  refine lv_icmp_ge (tgt := 59) hx hb dX1_init_37 (by decide) (fun c_412 => absurd c_412 (by decide)) (fun _ => ?_)
  refine lv_aload_n hx hb dX1_init_40 rfl (lv_at hl 1 rfl) ?_
  refine va_get (D := (dC, dI)) (ci := 1) (v := .ref q_1) (C := RX1) (T := TX1) (N := 8) hx hb hts in_c_decl_X1 hown hK hP 0 rfl rfl 2 (by decide) (hts (.fieldLink RX1 11 "OwnedPlaces$Declarations" "functions" "[LOwnedPlaces$Function;") (wm_c_decl 5 rfl)) (fun _ h9 => h9) rfl dX1_init_41 ?_
  refine lv_iload_n hx hb dX1_init_44 rfl (lv_at hl 0 rfl) ?_
  refine va_new (ci := 2) (fs := [.int 0, .int 0, .int 0, .null, .int 0, .null, .int 0, .int 0, .int 0, .int 0, .null, .null, .null, .null, .null, .null, .int 0, .int 0, .int 0, .int 0, .int 0, .int 0]) (C := RX2) (T := TX2) (N := 22) hx hb hts in_c_decl_X2 tyX2 tyX2_ok hown (hts (.classLink RX1 9 RX2) (wm_c_decl 4 rfl)) (hts (.instantiable RX2 22) (wm_c_decl 10 rfl)) (hts (.initialized RX2) (wm_c_decl 11 rfl)) hK hP hD hS hA rfl dv_X2 (show 335 + 1 ≤ 362 by omega) (show 13494 + 22 ≤ 14340 by omega) dX1_init_45 (fun q_413 H hP hD hS => ?_)
  have hP : va_P (dC, dI) vwCl [(d, .inr (1, [.ref h, .ref y, .ref q_1, .int 0, .int 0, .ref q_3, .null, .int 0])), (q_1, .inl (k_2, 40, .inr (.inr (.inr (.inr fa36))))), (q_3, .inl (k_4, 3020, .inl (fun _ => 0))), (q_413, .inr (2, [.int 0, .int 0, .int 0, .null, .int 0, .null, .int 0, .int 0, .int 0, .int 0, .null, .null, .null, .null, .null, .null, .int 0, .int 0, .int 0, .int 0, .int 0, .int 0]))] H := hP
  have hD : va_D A [(d, .inr (1, [.ref h, .ref y, .ref q_1, .int 0, .int 0, .ref q_3, .null, .int 0])), (q_1, .inl (k_2, 40, .inr (.inr (.inr (.inr fa36))))), (q_3, .inl (k_4, 3020, .inl (fun _ => 0))), (q_413, .inr (2, [.int 0, .int 0, .int 0, .null, .int 0, .null, .int 0, .int 0, .int 0, .int 0, .null, .null, .null, .null, .null, .null, .int 0, .int 0, .int 0, .int 0, .int 0, .int 0]))] := hD
  refine W.widen (k := 336) (n := 13516) (by omega) (by omega) ?_
  refine lv_dup hx hb dX1_init_48 rfl ?_
  have hPc := hP.sub (ws' := [(q_413, .inr (2, [.int 0, .int 0, .int 0, .null, .int 0, .null, .int 0, .int 0, .int 0, .int 0, .null, .null, .null, .null, .null, .null, .int 0, .int 0, .int 0, .int 0, .int 0, .int 0]))]) [3] rfl
  have hDc := hD.sub (ws' := [(q_413, .inr (2, [.int 0, .int 0, .int 0, .null, .int 0, .null, .int 0, .int 0, .int 0, .int 0, .null, .null, .null, .null, .null, .null, .int 0, .int 0, .int 0, .int 0, .int 0, .int 0]))]) [3] (by decide) rfl
  have hKc := hK.sub (tys' := []) [] rfl
  have hFc := va_free (wc := [(q_413, .inr (2, [.int 0, .int 0, .int 0, .null, .int 0, .null, .int 0, .int 0, .int 0, .int 0, .null, .null, .null, .null, .null, .null, .int 0, .int 0, .int 0, .int 0, .int 0, .int 0]))]) hD hS hA [3] rfl
  refine va_callv (va_runIN (As := []) (rest := [.ref q_413, .int 37, .ref q_1]) ⟨hx, hb, hml, hown, hts⟩ (c_function l dC dI q_413 H.size) ⟨va_cnB 0 hts g_c_decl_c_function_49 rfl rfl rfl hpre0 (hts (.initialized RX2) (wm_c_decl 11 rfl)) (by decide +kernel) ⟨Nat.le_of_ble_eq_true rfl, Nat.le_of_ble_eq_true rfl⟩, rfl, (hts (.instanceMethod yX2_init) (wm_c_decl 23 rfl))⟩ ⟨fun a U g mk q => by obtain ⟨q0, q1, qP, qK, qD⟩ := q; exact ⟨q0, q1, qP, va_K.moved (u := U) (U := U.calling g mk a) (Vm.Alike.refl U.vm) qK, qD⟩, fun U hU hW => ⟨rfl, by rw [hU], by rw [hU]; exact hPc, va_K.moved hW.alike hKc, hDc.weaken (fun _ _ _ _ => trivial)⟩⟩ rfl rfl hl.1 rfl (lv_room (Nat.le_of_ble_eq_true rfl)) dX1_init_49 ⟨(show 336 + 8 ≤ 362 by omega), (show 13516 + 260 ≤ 14340 by omega)⟩) hS (fun q _ h => hFc q h) hFc (fun u tS H1 locs ht hvm hw hB hz1 hk1 hS => ?_)
  obtain ⟨q3_415, q5_416, q10_417, q11_418, q12_419, q13_420, q14_421, q15_422, hP1, hK1, hD1⟩ := hB
  rw [ht] at hP1
  have hK1 := va_K.moved hvm.symm hK1
  obtain ⟨hP, hD⟩ := va_join (wr := [(d, .inr (1, [.ref h, .ref y, .ref q_1, .int 0, .int 0, .ref q_3, .null, .int 0])), (q_1, .inl (k_2, 40, .inr (.inr (.inr (.inr fa36))))), (q_3, .inl (k_4, 3020, .inl (fun _ => 0)))]) (w1 := [(q_413, .inr (2, [.int 0, .int 0, .int 0, .ref q3_415, .int 0, .ref q5_416, .int 0, .int 0, .int 0, .int 0, .ref q10_417, .ref q11_418, .ref q12_419, .ref q13_420, .ref q14_421, .ref q15_422, .int 0, .int 0, .int 0, .int 0, .int 0, .int 0]))]) hP hD [3] [0, 1, 2] rfl rfl (by decide) (by decide) hk1 hFc hP1 hD1
  generalize H1 = H at hP hS ⊢
  have hP : va_P (dC, dI) vwCl [(d, .inr (1, [.ref h, .ref y, .ref q_1, .int 0, .int 0, .ref q_3, .null, .int 0])), (q_1, .inl (k_2, 40, .inr (.inr (.inr (.inr fa36))))), (q_3, .inl (k_4, 3020, .inl (fun _ => 0))), (q_413, .inr (2, [.int 0, .int 0, .int 0, .ref q3_415, .int 0, .ref q5_416, .int 0, .int 0, .int 0, .int 0, .ref q10_417, .ref q11_418, .ref q12_419, .ref q13_420, .ref q14_421, .ref q15_422, .int 0, .int 0, .int 0, .int 0, .int 0, .int 0]))] H := hP
  have hD : va_D A [(d, .inr (1, [.ref h, .ref y, .ref q_1, .int 0, .int 0, .ref q_3, .null, .int 0])), (q_1, .inl (k_2, 40, .inr (.inr (.inr (.inr fa36))))), (q_3, .inl (k_4, 3020, .inl (fun _ => 0))), (q_413, .inr (2, [.int 0, .int 0, .int 0, .ref q3_415, .int 0, .ref q5_416, .int 0, .int 0, .int 0, .int 0, .ref q10_417, .ref q11_418, .ref q12_419, .ref q13_420, .ref q14_421, .ref q15_422, .int 0, .int 0, .int 0, .int 0, .int 0, .int 0]))] := hD
  have hK : va_K (dC, dI) vwCl [(k_2, .object RX2), (k_4, .int)] s := hK
  refine W.widen (k := 344) (n := 13776) (by omega) (by omega) ?_
  refine va_astq hx hb hK hP hD hS 1 0 3 2 rfl rfl rfl rfl (by unfold vp_in; decide) dX1_init_52 (fun H locs hP hD hS => ?_)
  have hP : va_P (dC, dI) vwCl [(d, .inr (1, [.ref h, .ref y, .ref q_1, .int 0, .int 0, .ref q_3, .null, .int 0])), (q_1, .inl (k_2, 40, .inr (.inr (.inr (.inr (va_up fa36 (37 : Int32).toNatClampNeg (some q_413))))))), (q_3, .inl (k_4, 3020, .inl (fun _ => 0))), (q_413, .inr (2, [.int 0, .int 0, .int 0, .ref q3_415, .int 0, .ref q5_416, .int 0, .int 0, .int 0, .int 0, .ref q10_417, .ref q11_418, .ref q12_419, .ref q13_420, .ref q14_421, .ref q15_422, .int 0, .int 0, .int 0, .int 0, .int 0, .int 0]))] H := hP
  have hD : va_D A [(d, .inr (1, [.ref h, .ref y, .ref q_1, .int 0, .int 0, .ref q_3, .null, .int 0])), (q_1, .inl (k_2, 40, .inr (.inr (.inr (.inr (va_up fa36 (37 : Int32).toNatClampNeg (some q_413))))))), (q_3, .inl (k_4, 3020, .inl (fun _ => 0))), (q_413, .inr (2, [.int 0, .int 0, .int 0, .ref q3_415, .int 0, .ref q5_416, .int 0, .int 0, .int 0, .int 0, .ref q10_417, .ref q11_418, .ref q12_419, .ref q13_420, .ref q14_421, .ref q15_422, .int 0, .int 0, .int 0, .int 0, .int 0, .int 0]))] := hD
  obtain ⟨fa37, efa37⟩ : ∃ z : Nat → Option Nat, z = va_up fa36 (37 : Int32).toNatClampNeg (some q_413) := ⟨_, rfl⟩
  rw [← efa37] at hP hD
  have hP := hP.sub (ws' := [(d, .inr (1, [.ref h, .ref y, .ref q_1, .int 0, .int 0, .ref q_3, .null, .int 0])), (q_1, .inl (k_2, 40, .inr (.inr (.inr (.inr fa37))))), (q_3, .inl (k_4, 3020, .inl (fun _ => 0)))]) [0, 1, 2] rfl
  have hD := hD.sub (ws' := [(d, .inr (1, [.ref h, .ref y, .ref q_1, .int 0, .int 0, .ref q_3, .null, .int 0])), (q_1, .inl (k_2, 40, .inr (.inr (.inr (.inr fa37))))), (q_3, .inl (k_4, 3020, .inl (fun _ => 0)))]) [0, 1, 2] (by decide) rfl
  have hK := hK.sub (tys' := [(k_2, .object RX2), (k_4, .int)]) [0, 1] rfl
  refine lv_iinc (v := 38) (lv' := [(3, .int 38), (0, .ref d), (1, .ref h), (2, .ref y)]) hx hb dX1_init_53 hl (k := 0) rfl (by decide) (by decide) rfl (fun ls hl => ?_)
  refine lv_goto (tgt := 34) hx hb dX1_init_56 (by decide) ?_
  refine lv_iload_n hx hb dX1_init_34 rfl (lv_at hl 0 rfl) ?_
  refine lv_bipush (v := 40) hx hb dX1_init_35 (by decide) ?_
  refine lv_icmp_ge (tgt := 59) hx hb dX1_init_37 (by decide) (fun c_423 => absurd c_423 (by decide)) (fun _ => ?_)
  refine lv_aload_n hx hb dX1_init_40 rfl (lv_at hl 1 rfl) ?_
  refine va_get (D := (dC, dI)) (ci := 1) (v := .ref q_1) (C := RX1) (T := TX1) (N := 8) hx hb hts in_c_decl_X1 hown hK hP 0 rfl rfl 2 (by decide) (hts (.fieldLink RX1 11 "OwnedPlaces$Declarations" "functions" "[LOwnedPlaces$Function;") (wm_c_decl 5 rfl)) (fun _ h9 => h9) rfl dX1_init_41 ?_
  refine lv_iload_n hx hb dX1_init_44 rfl (lv_at hl 0 rfl) ?_
  refine va_new (ci := 2) (fs := [.int 0, .int 0, .int 0, .null, .int 0, .null, .int 0, .int 0, .int 0, .int 0, .null, .null, .null, .null, .null, .null, .int 0, .int 0, .int 0, .int 0, .int 0, .int 0]) (C := RX2) (T := TX2) (N := 22) hx hb hts in_c_decl_X2 tyX2 tyX2_ok hown (hts (.classLink RX1 9 RX2) (wm_c_decl 4 rfl)) (hts (.instantiable RX2 22) (wm_c_decl 10 rfl)) (hts (.initialized RX2) (wm_c_decl 11 rfl)) hK hP hD hS hA rfl dv_X2 (show 344 + 1 ≤ 362 by omega) (show 13776 + 22 ≤ 14340 by omega) dX1_init_45 (fun q_424 H hP hD hS => ?_)
  have hP : va_P (dC, dI) vwCl [(d, .inr (1, [.ref h, .ref y, .ref q_1, .int 0, .int 0, .ref q_3, .null, .int 0])), (q_1, .inl (k_2, 40, .inr (.inr (.inr (.inr fa37))))), (q_3, .inl (k_4, 3020, .inl (fun _ => 0))), (q_424, .inr (2, [.int 0, .int 0, .int 0, .null, .int 0, .null, .int 0, .int 0, .int 0, .int 0, .null, .null, .null, .null, .null, .null, .int 0, .int 0, .int 0, .int 0, .int 0, .int 0]))] H := hP
  have hD : va_D A [(d, .inr (1, [.ref h, .ref y, .ref q_1, .int 0, .int 0, .ref q_3, .null, .int 0])), (q_1, .inl (k_2, 40, .inr (.inr (.inr (.inr fa37))))), (q_3, .inl (k_4, 3020, .inl (fun _ => 0))), (q_424, .inr (2, [.int 0, .int 0, .int 0, .null, .int 0, .null, .int 0, .int 0, .int 0, .int 0, .null, .null, .null, .null, .null, .null, .int 0, .int 0, .int 0, .int 0, .int 0, .int 0]))] := hD
  refine W.widen (k := 345) (n := 13798) (by omega) (by omega) ?_
  refine lv_dup hx hb dX1_init_48 rfl ?_
  have hPc := hP.sub (ws' := [(q_424, .inr (2, [.int 0, .int 0, .int 0, .null, .int 0, .null, .int 0, .int 0, .int 0, .int 0, .null, .null, .null, .null, .null, .null, .int 0, .int 0, .int 0, .int 0, .int 0, .int 0]))]) [3] rfl
  have hDc := hD.sub (ws' := [(q_424, .inr (2, [.int 0, .int 0, .int 0, .null, .int 0, .null, .int 0, .int 0, .int 0, .int 0, .null, .null, .null, .null, .null, .null, .int 0, .int 0, .int 0, .int 0, .int 0, .int 0]))]) [3] (by decide) rfl
  have hKc := hK.sub (tys' := []) [] rfl
  have hFc := va_free (wc := [(q_424, .inr (2, [.int 0, .int 0, .int 0, .null, .int 0, .null, .int 0, .int 0, .int 0, .int 0, .null, .null, .null, .null, .null, .null, .int 0, .int 0, .int 0, .int 0, .int 0, .int 0]))]) hD hS hA [3] rfl
  refine va_callv (va_runIN (As := []) (rest := [.ref q_424, .int 38, .ref q_1]) ⟨hx, hb, hml, hown, hts⟩ (c_function l dC dI q_424 H.size) ⟨va_cnB 0 hts g_c_decl_c_function_49 rfl rfl rfl hpre0 (hts (.initialized RX2) (wm_c_decl 11 rfl)) (by decide +kernel) ⟨Nat.le_of_ble_eq_true rfl, Nat.le_of_ble_eq_true rfl⟩, rfl, (hts (.instanceMethod yX2_init) (wm_c_decl 23 rfl))⟩ ⟨fun a U g mk q => by obtain ⟨q0, q1, qP, qK, qD⟩ := q; exact ⟨q0, q1, qP, va_K.moved (u := U) (U := U.calling g mk a) (Vm.Alike.refl U.vm) qK, qD⟩, fun U hU hW => ⟨rfl, by rw [hU], by rw [hU]; exact hPc, va_K.moved hW.alike hKc, hDc.weaken (fun _ _ _ _ => trivial)⟩⟩ rfl rfl hl.1 rfl (lv_room (Nat.le_of_ble_eq_true rfl)) dX1_init_49 ⟨(show 345 + 8 ≤ 362 by omega), (show 13798 + 260 ≤ 14340 by omega)⟩) hS (fun q _ h => hFc q h) hFc (fun u tS H1 locs ht hvm hw hB hz1 hk1 hS => ?_)
  obtain ⟨q3_426, q5_427, q10_428, q11_429, q12_430, q13_431, q14_432, q15_433, hP1, hK1, hD1⟩ := hB
  rw [ht] at hP1
  have hK1 := va_K.moved hvm.symm hK1
  obtain ⟨hP, hD⟩ := va_join (wr := [(d, .inr (1, [.ref h, .ref y, .ref q_1, .int 0, .int 0, .ref q_3, .null, .int 0])), (q_1, .inl (k_2, 40, .inr (.inr (.inr (.inr fa37))))), (q_3, .inl (k_4, 3020, .inl (fun _ => 0)))]) (w1 := [(q_424, .inr (2, [.int 0, .int 0, .int 0, .ref q3_426, .int 0, .ref q5_427, .int 0, .int 0, .int 0, .int 0, .ref q10_428, .ref q11_429, .ref q12_430, .ref q13_431, .ref q14_432, .ref q15_433, .int 0, .int 0, .int 0, .int 0, .int 0, .int 0]))]) hP hD [3] [0, 1, 2] rfl rfl (by decide) (by decide) hk1 hFc hP1 hD1
  generalize H1 = H at hP hS ⊢
  have hP : va_P (dC, dI) vwCl [(d, .inr (1, [.ref h, .ref y, .ref q_1, .int 0, .int 0, .ref q_3, .null, .int 0])), (q_1, .inl (k_2, 40, .inr (.inr (.inr (.inr fa37))))), (q_3, .inl (k_4, 3020, .inl (fun _ => 0))), (q_424, .inr (2, [.int 0, .int 0, .int 0, .ref q3_426, .int 0, .ref q5_427, .int 0, .int 0, .int 0, .int 0, .ref q10_428, .ref q11_429, .ref q12_430, .ref q13_431, .ref q14_432, .ref q15_433, .int 0, .int 0, .int 0, .int 0, .int 0, .int 0]))] H := hP
  have hD : va_D A [(d, .inr (1, [.ref h, .ref y, .ref q_1, .int 0, .int 0, .ref q_3, .null, .int 0])), (q_1, .inl (k_2, 40, .inr (.inr (.inr (.inr fa37))))), (q_3, .inl (k_4, 3020, .inl (fun _ => 0))), (q_424, .inr (2, [.int 0, .int 0, .int 0, .ref q3_426, .int 0, .ref q5_427, .int 0, .int 0, .int 0, .int 0, .ref q10_428, .ref q11_429, .ref q12_430, .ref q13_431, .ref q14_432, .ref q15_433, .int 0, .int 0, .int 0, .int 0, .int 0, .int 0]))] := hD
  have hK : va_K (dC, dI) vwCl [(k_2, .object RX2), (k_4, .int)] s := hK
  refine W.widen (k := 353) (n := 14058) (by omega) (by omega) ?_
  refine va_astq hx hb hK hP hD hS 1 0 3 2 rfl rfl rfl rfl (by unfold vp_in; decide) dX1_init_52 (fun H locs hP hD hS => ?_)
  have hP : va_P (dC, dI) vwCl [(d, .inr (1, [.ref h, .ref y, .ref q_1, .int 0, .int 0, .ref q_3, .null, .int 0])), (q_1, .inl (k_2, 40, .inr (.inr (.inr (.inr (va_up fa37 (38 : Int32).toNatClampNeg (some q_424))))))), (q_3, .inl (k_4, 3020, .inl (fun _ => 0))), (q_424, .inr (2, [.int 0, .int 0, .int 0, .ref q3_426, .int 0, .ref q5_427, .int 0, .int 0, .int 0, .int 0, .ref q10_428, .ref q11_429, .ref q12_430, .ref q13_431, .ref q14_432, .ref q15_433, .int 0, .int 0, .int 0, .int 0, .int 0, .int 0]))] H := hP
  have hD : va_D A [(d, .inr (1, [.ref h, .ref y, .ref q_1, .int 0, .int 0, .ref q_3, .null, .int 0])), (q_1, .inl (k_2, 40, .inr (.inr (.inr (.inr (va_up fa37 (38 : Int32).toNatClampNeg (some q_424))))))), (q_3, .inl (k_4, 3020, .inl (fun _ => 0))), (q_424, .inr (2, [.int 0, .int 0, .int 0, .ref q3_426, .int 0, .ref q5_427, .int 0, .int 0, .int 0, .int 0, .ref q10_428, .ref q11_429, .ref q12_430, .ref q13_431, .ref q14_432, .ref q15_433, .int 0, .int 0, .int 0, .int 0, .int 0, .int 0]))] := hD
  obtain ⟨fa38, efa38⟩ : ∃ z : Nat → Option Nat, z = va_up fa37 (38 : Int32).toNatClampNeg (some q_424) := ⟨_, rfl⟩
  rw [← efa38] at hP hD
  have hP := hP.sub (ws' := [(d, .inr (1, [.ref h, .ref y, .ref q_1, .int 0, .int 0, .ref q_3, .null, .int 0])), (q_1, .inl (k_2, 40, .inr (.inr (.inr (.inr fa38))))), (q_3, .inl (k_4, 3020, .inl (fun _ => 0)))]) [0, 1, 2] rfl
  have hD := hD.sub (ws' := [(d, .inr (1, [.ref h, .ref y, .ref q_1, .int 0, .int 0, .ref q_3, .null, .int 0])), (q_1, .inl (k_2, 40, .inr (.inr (.inr (.inr fa38))))), (q_3, .inl (k_4, 3020, .inl (fun _ => 0)))]) [0, 1, 2] (by decide) rfl
  have hK := hK.sub (tys' := [(k_2, .object RX2), (k_4, .int)]) [0, 1] rfl
  refine lv_iinc (v := 39) (lv' := [(3, .int 39), (0, .ref d), (1, .ref h), (2, .ref y)]) hx hb dX1_init_53 hl (k := 0) rfl (by decide) (by decide) rfl (fun ls hl => ?_)
  refine lv_goto (tgt := 34) hx hb dX1_init_56 (by decide) ?_
  refine lv_iload_n hx hb dX1_init_34 rfl (lv_at hl 0 rfl) ?_
  refine lv_bipush (v := 40) hx hb dX1_init_35 (by decide) ?_
  refine lv_icmp_ge (tgt := 59) hx hb dX1_init_37 (by decide) (fun c_434 => absurd c_434 (by decide)) (fun _ => ?_)
  refine lv_aload_n hx hb dX1_init_40 rfl (lv_at hl 1 rfl) ?_
  refine va_get (D := (dC, dI)) (ci := 1) (v := .ref q_1) (C := RX1) (T := TX1) (N := 8) hx hb hts in_c_decl_X1 hown hK hP 0 rfl rfl 2 (by decide) (hts (.fieldLink RX1 11 "OwnedPlaces$Declarations" "functions" "[LOwnedPlaces$Function;") (wm_c_decl 5 rfl)) (fun _ h9 => h9) rfl dX1_init_41 ?_
  refine lv_iload_n hx hb dX1_init_44 rfl (lv_at hl 0 rfl) ?_
  refine va_new (ci := 2) (fs := [.int 0, .int 0, .int 0, .null, .int 0, .null, .int 0, .int 0, .int 0, .int 0, .null, .null, .null, .null, .null, .null, .int 0, .int 0, .int 0, .int 0, .int 0, .int 0]) (C := RX2) (T := TX2) (N := 22) hx hb hts in_c_decl_X2 tyX2 tyX2_ok hown (hts (.classLink RX1 9 RX2) (wm_c_decl 4 rfl)) (hts (.instantiable RX2 22) (wm_c_decl 10 rfl)) (hts (.initialized RX2) (wm_c_decl 11 rfl)) hK hP hD hS hA rfl dv_X2 (show 353 + 1 ≤ 362 by omega) (show 14058 + 22 ≤ 14340 by omega) dX1_init_45 (fun q_435 H hP hD hS => ?_)
  have hP : va_P (dC, dI) vwCl [(d, .inr (1, [.ref h, .ref y, .ref q_1, .int 0, .int 0, .ref q_3, .null, .int 0])), (q_1, .inl (k_2, 40, .inr (.inr (.inr (.inr fa38))))), (q_3, .inl (k_4, 3020, .inl (fun _ => 0))), (q_435, .inr (2, [.int 0, .int 0, .int 0, .null, .int 0, .null, .int 0, .int 0, .int 0, .int 0, .null, .null, .null, .null, .null, .null, .int 0, .int 0, .int 0, .int 0, .int 0, .int 0]))] H := hP
  have hD : va_D A [(d, .inr (1, [.ref h, .ref y, .ref q_1, .int 0, .int 0, .ref q_3, .null, .int 0])), (q_1, .inl (k_2, 40, .inr (.inr (.inr (.inr fa38))))), (q_3, .inl (k_4, 3020, .inl (fun _ => 0))), (q_435, .inr (2, [.int 0, .int 0, .int 0, .null, .int 0, .null, .int 0, .int 0, .int 0, .int 0, .null, .null, .null, .null, .null, .null, .int 0, .int 0, .int 0, .int 0, .int 0, .int 0]))] := hD
  refine W.widen (k := 354) (n := 14080) (by omega) (by omega) ?_
  refine lv_dup hx hb dX1_init_48 rfl ?_
  have hPc := hP.sub (ws' := [(q_435, .inr (2, [.int 0, .int 0, .int 0, .null, .int 0, .null, .int 0, .int 0, .int 0, .int 0, .null, .null, .null, .null, .null, .null, .int 0, .int 0, .int 0, .int 0, .int 0, .int 0]))]) [3] rfl
  have hDc := hD.sub (ws' := [(q_435, .inr (2, [.int 0, .int 0, .int 0, .null, .int 0, .null, .int 0, .int 0, .int 0, .int 0, .null, .null, .null, .null, .null, .null, .int 0, .int 0, .int 0, .int 0, .int 0, .int 0]))]) [3] (by decide) rfl
  have hKc := hK.sub (tys' := []) [] rfl
  have hFc := va_free (wc := [(q_435, .inr (2, [.int 0, .int 0, .int 0, .null, .int 0, .null, .int 0, .int 0, .int 0, .int 0, .null, .null, .null, .null, .null, .null, .int 0, .int 0, .int 0, .int 0, .int 0, .int 0]))]) hD hS hA [3] rfl
  refine va_callv (va_runIN (As := []) (rest := [.ref q_435, .int 39, .ref q_1]) ⟨hx, hb, hml, hown, hts⟩ (c_function l dC dI q_435 H.size) ⟨va_cnB 0 hts g_c_decl_c_function_49 rfl rfl rfl hpre0 (hts (.initialized RX2) (wm_c_decl 11 rfl)) (by decide +kernel) ⟨Nat.le_of_ble_eq_true rfl, Nat.le_of_ble_eq_true rfl⟩, rfl, (hts (.instanceMethod yX2_init) (wm_c_decl 23 rfl))⟩ ⟨fun a U g mk q => by obtain ⟨q0, q1, qP, qK, qD⟩ := q; exact ⟨q0, q1, qP, va_K.moved (u := U) (U := U.calling g mk a) (Vm.Alike.refl U.vm) qK, qD⟩, fun U hU hW => ⟨rfl, by rw [hU], by rw [hU]; exact hPc, va_K.moved hW.alike hKc, hDc.weaken (fun _ _ _ _ => trivial)⟩⟩ rfl rfl hl.1 rfl (lv_room (Nat.le_of_ble_eq_true rfl)) dX1_init_49 ⟨(show 354 + 8 ≤ 362 by omega), (show 14080 + 260 ≤ 14340 by omega)⟩) hS (fun q _ h => hFc q h) hFc (fun u tS H1 locs ht hvm hw hB hz1 hk1 hS => ?_)
  obtain ⟨q3_437, q5_438, q10_439, q11_440, q12_441, q13_442, q14_443, q15_444, hP1, hK1, hD1⟩ := hB
  rw [ht] at hP1
  have hK1 := va_K.moved hvm.symm hK1
  obtain ⟨hP, hD⟩ := va_join (wr := [(d, .inr (1, [.ref h, .ref y, .ref q_1, .int 0, .int 0, .ref q_3, .null, .int 0])), (q_1, .inl (k_2, 40, .inr (.inr (.inr (.inr fa38))))), (q_3, .inl (k_4, 3020, .inl (fun _ => 0)))]) (w1 := [(q_435, .inr (2, [.int 0, .int 0, .int 0, .ref q3_437, .int 0, .ref q5_438, .int 0, .int 0, .int 0, .int 0, .ref q10_439, .ref q11_440, .ref q12_441, .ref q13_442, .ref q14_443, .ref q15_444, .int 0, .int 0, .int 0, .int 0, .int 0, .int 0]))]) hP hD [3] [0, 1, 2] rfl rfl (by decide) (by decide) hk1 hFc hP1 hD1
  generalize H1 = H at hP hS ⊢
  have hP : va_P (dC, dI) vwCl [(d, .inr (1, [.ref h, .ref y, .ref q_1, .int 0, .int 0, .ref q_3, .null, .int 0])), (q_1, .inl (k_2, 40, .inr (.inr (.inr (.inr fa38))))), (q_3, .inl (k_4, 3020, .inl (fun _ => 0))), (q_435, .inr (2, [.int 0, .int 0, .int 0, .ref q3_437, .int 0, .ref q5_438, .int 0, .int 0, .int 0, .int 0, .ref q10_439, .ref q11_440, .ref q12_441, .ref q13_442, .ref q14_443, .ref q15_444, .int 0, .int 0, .int 0, .int 0, .int 0, .int 0]))] H := hP
  have hD : va_D A [(d, .inr (1, [.ref h, .ref y, .ref q_1, .int 0, .int 0, .ref q_3, .null, .int 0])), (q_1, .inl (k_2, 40, .inr (.inr (.inr (.inr fa38))))), (q_3, .inl (k_4, 3020, .inl (fun _ => 0))), (q_435, .inr (2, [.int 0, .int 0, .int 0, .ref q3_437, .int 0, .ref q5_438, .int 0, .int 0, .int 0, .int 0, .ref q10_439, .ref q11_440, .ref q12_441, .ref q13_442, .ref q14_443, .ref q15_444, .int 0, .int 0, .int 0, .int 0, .int 0, .int 0]))] := hD
  have hK : va_K (dC, dI) vwCl [(k_2, .object RX2), (k_4, .int)] s := hK
  refine W.widen (k := 362) (n := 14340) (by omega) (by omega) ?_
  refine va_astq hx hb hK hP hD hS 1 0 3 2 rfl rfl rfl rfl (by unfold vp_in; decide) dX1_init_52 (fun H locs hP hD hS => ?_)
  have hP : va_P (dC, dI) vwCl [(d, .inr (1, [.ref h, .ref y, .ref q_1, .int 0, .int 0, .ref q_3, .null, .int 0])), (q_1, .inl (k_2, 40, .inr (.inr (.inr (.inr (va_up fa38 (39 : Int32).toNatClampNeg (some q_435))))))), (q_3, .inl (k_4, 3020, .inl (fun _ => 0))), (q_435, .inr (2, [.int 0, .int 0, .int 0, .ref q3_437, .int 0, .ref q5_438, .int 0, .int 0, .int 0, .int 0, .ref q10_439, .ref q11_440, .ref q12_441, .ref q13_442, .ref q14_443, .ref q15_444, .int 0, .int 0, .int 0, .int 0, .int 0, .int 0]))] H := hP
  have hD : va_D A [(d, .inr (1, [.ref h, .ref y, .ref q_1, .int 0, .int 0, .ref q_3, .null, .int 0])), (q_1, .inl (k_2, 40, .inr (.inr (.inr (.inr (va_up fa38 (39 : Int32).toNatClampNeg (some q_435))))))), (q_3, .inl (k_4, 3020, .inl (fun _ => 0))), (q_435, .inr (2, [.int 0, .int 0, .int 0, .ref q3_437, .int 0, .ref q5_438, .int 0, .int 0, .int 0, .int 0, .ref q10_439, .ref q11_440, .ref q12_441, .ref q13_442, .ref q14_443, .ref q15_444, .int 0, .int 0, .int 0, .int 0, .int 0, .int 0]))] := hD
  obtain ⟨fa39, efa39⟩ : ∃ z : Nat → Option Nat, z = va_up fa38 (39 : Int32).toNatClampNeg (some q_435) := ⟨_, rfl⟩
  rw [← efa39] at hP hD
  have hP := hP.sub (ws' := [(d, .inr (1, [.ref h, .ref y, .ref q_1, .int 0, .int 0, .ref q_3, .null, .int 0])), (q_1, .inl (k_2, 40, .inr (.inr (.inr (.inr fa39))))), (q_3, .inl (k_4, 3020, .inl (fun _ => 0)))]) [0, 1, 2] rfl
  have hD := hD.sub (ws' := [(d, .inr (1, [.ref h, .ref y, .ref q_1, .int 0, .int 0, .ref q_3, .null, .int 0])), (q_1, .inl (k_2, 40, .inr (.inr (.inr (.inr fa39))))), (q_3, .inl (k_4, 3020, .inl (fun _ => 0)))]) [0, 1, 2] (by decide) rfl
  have hK := hK.sub (tys' := [(k_2, .object RX2), (k_4, .int)]) [0, 1] rfl
  refine lv_iinc (v := 40) (lv' := [(3, .int 40), (0, .ref d), (1, .ref h), (2, .ref y)]) hx hb dX1_init_53 hl (k := 0) rfl (by decide) (by decide) rfl (fun ls hl => ?_)
  refine lv_goto (tgt := 34) hx hb dX1_init_56 (by decide) ?_
  refine lv_iload_n hx hb dX1_init_34 rfl (lv_at hl 0 rfl) ?_
  refine lv_bipush (v := 40) hx hb dX1_init_35 (by decide) ?_
  refine lv_icmp_ge (tgt := 59) hx hb dX1_init_37 (by decide) (fun _ => ?_) (fun c_445 => absurd (by decide) c_445)
  have hP9 := hP.sub (ws' := [(d, .inr (1, [.ref h, .ref y, .ref q_1, .int 0, .int 0, .ref q_3, .null, .int 0])), (q_3, .inl (k_4, 3020, .inl (fun _ => 0)))]) [0, 2] rfl
  have hD9 := hD.sub (ws' := [(d, .inr (1, [.ref h, .ref y, .ref q_1, .int 0, .int 0, .ref q_3, .null, .int 0])), (q_3, .inl (k_4, 3020, .inl (fun _ => 0)))]) [0, 2] (by decide) rfl
  have hK9 := hK.sub (tys' := [(k_4, .int)]) [1] rfl
  refine W.widen (k := 362) (n := 14340) (by omega) (by omega) ?_
  exact W.vret hx hb hr (fun tS ht hW => ⟨⟨(), rfl, trivial, q_1, q_3, k_4, by rw [ht]; exact hP9, va_K.moved hW.alike hK9, hD9⟩, hS.F ht⟩) hS.2.2 dX1_init_59
end
