set_option maxRecDepth 100000 in
theorem lR0_0 : (.code yX23_ok cX23_ok 1 (some .boolean) : Cond) ∈ lw_tbl := tb_10 _ (List.mem_of_getElem? (i := 25) (by decide +kernel))
set_option maxRecDepth 100000 in
theorem lR0_1 : (.fieldLink RX23 80 "OwnedPlacesModel" "fault" "I" : Cond) ∈ lw_tbl := tb_8 _ (List.mem_of_getElem? (i := 166) (by decide +kernel))
set_option maxRecDepth 100000 in
theorem lR0_2 : (.code yX23_fail cX23_fail 3 none : Cond) ∈ lw_tbl := tb_10 _ (List.mem_of_getElem? (i := 33) (by decide +kernel))
set_option maxRecDepth 100000 in
theorem lR0_3 : (.fieldLink RX23 31 "OwnedPlacesModel" "tokenAt" "[I" : Cond) ∈ lw_tbl := tb_8 _ (List.mem_of_getElem? (i := 169) (by decide +kernel))
set_option maxRecDepth 100000 in
theorem lR0_4 : (.fieldLink RX23 83 "OwnedPlacesModel" "faultAt" "I" : Cond) ∈ lw_tbl := tb_8 _ (List.mem_of_getElem? (i := 167) (by decide +kernel))
set_option maxRecDepth 100000 in
theorem lR0_5 : (.code yX23_sameName cX23_sameName 5 (some .boolean) : Cond) ∈ lw_tbl := tb_11 _ (List.mem_of_getElem? (i := 196) (by decide +kernel))
set_option maxRecDepth 100000 in
theorem lR0_6 : (.fieldLink RX23 34 "OwnedPlacesModel" "tokenEnd" "[I" : Cond) ∈ lw_tbl := tb_8 _ (List.mem_of_getElem? (i := 170) (by decide +kernel))
set_option maxRecDepth 100000 in
theorem lR0_7 : (.fieldLink RX23 7 "OwnedPlacesModel" "text" "[I" : Cond) ∈ lw_tbl := tb_8 _ (List.mem_of_getElem? (i := 163) (by decide +kernel))
set_option maxRecDepth 100000 in
theorem lR0_8 : (.code yX23_isMain cX23_isMain 3 (some .boolean) : Cond) ∈ lw_tbl := tb_12 _ (List.mem_of_getElem? (i := 41) (by decide +kernel))
set_option maxRecDepth 100000 in
theorem lR0_9 : (.code yX23_is cX23_is 2 (some .boolean) : Cond) ∈ lw_tbl := tb_10 _ (List.mem_of_getElem? (i := 29) (by decide +kernel))
set_option maxRecDepth 100000 in
theorem lR0_10 : (.fieldLink RX23 25 "OwnedPlacesModel" "tokenKind" "[I" : Cond) ∈ lw_tbl := tb_8 _ (List.mem_of_getElem? (i := 168) (by decide +kernel))
set_option maxRecDepth 100000 in
theorem lR0_11 : (.fieldLink RX23 86 "OwnedPlacesModel" "p" "I" : Cond) ∈ lw_tbl := tb_8 _ (List.mem_of_getElem? (i := 173) (by decide +kernel))
set_option maxRecDepth 100000 in
theorem lR0_12 : (.code yX23_take cX23_take 2 none : Cond) ∈ lw_tbl := tb_10 _ (List.mem_of_getElem? (i := 120) (by decide +kernel))
set_option maxRecDepth 100000 in
theorem lR0_13 : (.methodLink RX23 89 yX23_ok : Cond) ∈ lw_tbl := tb_10 _ (List.mem_of_getElem? (i := 22) (by decide +kernel))
set_option maxRecDepth 100000 in
theorem lR0_14 : (.instanceMethod yX23_ok : Cond) ∈ lw_tbl := tb_10 _ (List.mem_of_getElem? (i := 24) (by decide +kernel))
set_option maxRecDepth 100000 in
theorem lR0_15 : (.selects RX23 yX23_ok yX23_ok : Cond) ∈ lw_tbl := List.mem_append_left _ (List.mem_of_getElem? (i := 158) (by decide +kernel))
set_option maxRecDepth 100000 in
theorem lR0_16 : (.initialized RX23 : Cond) ∈ lw_tbl := tb_1 _ (List.mem_of_getElem? (i := 20) (by decide +kernel))
set_option maxRecDepth 100000 in
theorem lR0_17 : (.methodLink RX23 93 yX23_is : Cond) ∈ lw_tbl := tb_10 _ (List.mem_of_getElem? (i := 26) (by decide +kernel))
set_option maxRecDepth 100000 in
theorem lR0_18 : (.instanceMethod yX23_is : Cond) ∈ lw_tbl := tb_10 _ (List.mem_of_getElem? (i := 28) (by decide +kernel))
set_option maxRecDepth 100000 in
theorem lR0_19 : (.selects RX23 yX23_is yX23_is : Cond) ∈ lw_tbl := List.mem_append_left _ (List.mem_of_getElem? (i := 159) (by decide +kernel))
set_option maxRecDepth 100000 in
theorem lR0_20 : (.methodLink RX23 96 yX23_fail : Cond) ∈ lw_tbl := tb_10 _ (List.mem_of_getElem? (i := 30) (by decide +kernel))
set_option maxRecDepth 100000 in
theorem lR0_21 : (.instanceMethod yX23_fail : Cond) ∈ lw_tbl := tb_10 _ (List.mem_of_getElem? (i := 32) (by decide +kernel))
set_option maxRecDepth 100000 in
theorem lR0_22 : (.selects RX23 yX23_fail yX23_fail : Cond) ∈ lw_tbl := List.mem_append_left _ (List.mem_of_getElem? (i := 160) (by decide +kernel))
set_option maxRecDepth 100000 in
theorem lR0_23 : (.code yX23_takes cX23_takes 2 (some .boolean) : Cond) ∈ lw_tbl := tb_10 _ (List.mem_of_getElem? (i := 124) (by decide +kernel))
set_option maxRecDepth 100000 in
theorem lR0_24 : (.code yX23_name cX23_name 1 (some .int) : Cond) ∈ lw_tbl := tb_10 _ (List.mem_of_getElem? (i := 116) (by decide +kernel))
set_option maxRecDepth 100000 in
theorem lR0_25 : (.methodLink RX23 100 yX23_take : Cond) ∈ lw_tbl := tb_10 _ (List.mem_of_getElem? (i := 117) (by decide +kernel))
set_option maxRecDepth 100000 in
theorem lR0_26 : (.instanceMethod yX23_take : Cond) ∈ lw_tbl := tb_10 _ (List.mem_of_getElem? (i := 119) (by decide +kernel))
set_option maxRecDepth 100000 in
theorem lR0_27 : (.selects RX23 yX23_take yX23_take : Cond) ∈ lw_tbl := List.mem_append_left _ (List.mem_of_getElem? (i := 163) (by decide +kernel))
set_option maxRecDepth 100000 in
theorem lR0_28 : (.code yX23_enter cX23_enter 2 none : Cond) ∈ lw_tbl := tb_10 _ (List.mem_of_getElem? (i := 166) (by decide +kernel))
set_option maxRecDepth 100000 in
theorem lR0_29 : (.fieldLink RX23 104 "OwnedPlacesModel" "nest" "I" : Cond) ∈ lw_tbl := tb_8 _ (List.mem_of_getElem? (i := 178) (by decide +kernel))
set_option maxRecDepth 100000 in
theorem lR0_30 : (.code yX23_limit cX23_limit 3 none : Cond) ∈ lw_tbl := tb_10 _ (List.mem_of_getElem? (i := 136) (by decide +kernel))
set_option maxRecDepth 100000 in
theorem lR0_31 : (.code yX23_written cX23_written 3 (some (.object "OwnedPlacesModel$Written")) : Cond) ∈ lw_tbl := tb_10 _ (List.mem_of_getElem? (i := 140) (by decide +kernel))
set_option maxRecDepth 100000 in
theorem lR0_32 : (.classLink RX23 107 RX22 : Cond) ∈ lw_tbl := tb_10 _ (List.mem_of_getElem? (i := 111) (by decide +kernel))
set_option maxRecDepth 100000 in
theorem lR0_33 : (.instantiable RX22 5 : Cond) ∈ lw_tbl := tb_10 _ (List.mem_of_getElem? (i := 141) (by decide +kernel))
set_option maxRecDepth 100000 in
theorem lR0_34 : (.initialized RX22 : Cond) ∈ lw_tbl := tb_1 _ (List.mem_of_getElem? (i := 23) (by decide +kernel))
set_option maxRecDepth 100000 in
theorem lR0_35 : (.instanceMethod yX22_init : Cond) ∈ lw_tbl := tb_10 _ (List.mem_of_getElem? (i := 143) (by decide +kernel))
set_option maxRecDepth 100000 in
theorem lR0_36 : (.fieldLink RX23 113 "OwnedPlacesModel$Written" "token" "I" : Cond) ∈ lw_tbl := tb_10 _ (List.mem_of_getElem? (i := 147) (by decide +kernel))
set_option maxRecDepth 100000 in
theorem lR0_37 : (.fieldLink RX23 116 "OwnedPlacesModel$Written" "kind" "I" : Cond) ∈ lw_tbl := tb_10 _ (List.mem_of_getElem? (i := 146) (by decide +kernel))
set_option maxRecDepth 100000 in
theorem lR0_38 : (.methodLink RX23 119 yX23_enter : Cond) ∈ lw_tbl := tb_10 _ (List.mem_of_getElem? (i := 163) (by decide +kernel))
set_option maxRecDepth 100000 in
theorem lR0_39 : (.instanceMethod yX23_enter : Cond) ∈ lw_tbl := tb_10 _ (List.mem_of_getElem? (i := 165) (by decide +kernel))
set_option maxRecDepth 100000 in
theorem lR0_40 : (.selects RX23 yX23_enter yX23_enter : Cond) ∈ lw_tbl := List.mem_append_left _ (List.mem_of_getElem? (i := 169) (by decide +kernel))
set_option maxRecDepth 100000 in
theorem lR0_41 : (.fieldLink RX23 122 "OwnedPlacesModel$Written" "life" "I" : Cond) ∈ lw_tbl := tb_10 _ (List.mem_of_getElem? (i := 150) (by decide +kernel))
set_option maxRecDepth 100000 in
theorem lR0_42 : (.methodLink RX23 125 yX23_takes : Cond) ∈ lw_tbl := tb_10 _ (List.mem_of_getElem? (i := 121) (by decide +kernel))
set_option maxRecDepth 100000 in
theorem lR0_43 : (.instanceMethod yX23_takes : Cond) ∈ lw_tbl := tb_10 _ (List.mem_of_getElem? (i := 123) (by decide +kernel))
set_option maxRecDepth 100000 in
theorem lR0_44 : (.selects RX23 yX23_takes yX23_takes : Cond) ∈ lw_tbl := List.mem_append_left _ (List.mem_of_getElem? (i := 164) (by decide +kernel))
set_option maxRecDepth 100000 in
theorem lR0_45 : (.fieldLink RX23 128 "OwnedPlacesModel$Written" "name" "I" : Cond) ∈ lw_tbl := tb_10 _ (List.mem_of_getElem? (i := 148) (by decide +kernel))
set_option maxRecDepth 100000 in
theorem lR0_46 : (.methodLink RX23 131 yX23_written : Cond) ∈ lw_tbl := tb_10 _ (List.mem_of_getElem? (i := 137) (by decide +kernel))
set_option maxRecDepth 100000 in
theorem lR0_47 : (.instanceMethod yX23_written : Cond) ∈ lw_tbl := tb_10 _ (List.mem_of_getElem? (i := 139) (by decide +kernel))
set_option maxRecDepth 100000 in
theorem lR0_48 : (.selects RX23 yX23_written yX23_written : Cond) ∈ lw_tbl := List.mem_append_left _ (List.mem_of_getElem? (i := 168) (by decide +kernel))
set_option maxRecDepth 100000 in
theorem lR0_49 : (.fieldLink RX23 135 "OwnedPlacesModel$Written" "of" "LOwnedPlacesModel$Written;" : Cond) ∈ lw_tbl := tb_10 _ (List.mem_of_getElem? (i := 151) (by decide +kernel))
set_option maxRecDepth 100000 in
theorem lR0_50 : (.code yX23_fields cX23_fields 2 none : Cond) ∈ lw_tbl := tb_10 _ (List.mem_of_getElem? (i := 132) (by decide +kernel))
set_option maxRecDepth 100000 in
theorem lR0_51 : (.fieldLink RX23 139 "OwnedPlacesModel$Item" "many" "I" : Cond) ∈ lw_tbl := tb_10 _ (List.mem_of_getElem? (i := 42) (by decide +kernel))
set_option maxRecDepth 100000 in
theorem lR0_52 : (.methodLink RX23 144 yX23_limit : Cond) ∈ lw_tbl := tb_10 _ (List.mem_of_getElem? (i := 133) (by decide +kernel))
set_option maxRecDepth 100000 in
theorem lR0_53 : (.instanceMethod yX23_limit : Cond) ∈ lw_tbl := tb_10 _ (List.mem_of_getElem? (i := 135) (by decide +kernel))
set_option maxRecDepth 100000 in
theorem lR0_54 : (.selects RX23 yX23_limit yX23_limit : Cond) ∈ lw_tbl := List.mem_append_left _ (List.mem_of_getElem? (i := 167) (by decide +kernel))
set_option maxRecDepth 100000 in
theorem lR0_55 : (.fieldLink RX23 147 "OwnedPlacesModel$Item" "names" "[I" : Cond) ∈ lw_tbl := tb_10 _ (List.mem_of_getElem? (i := 48) (by decide +kernel))
set_option maxRecDepth 100000 in
theorem lR0_56 : (.methodLink RX23 150 yX23_name : Cond) ∈ lw_tbl := tb_10 _ (List.mem_of_getElem? (i := 113) (by decide +kernel))
set_option maxRecDepth 100000 in
theorem lR0_57 : (.instanceMethod yX23_name : Cond) ∈ lw_tbl := tb_10 _ (List.mem_of_getElem? (i := 115) (by decide +kernel))
set_option maxRecDepth 100000 in
theorem lR0_58 : (.selects RX23 yX23_name yX23_name : Cond) ∈ lw_tbl := List.mem_append_left _ (List.mem_of_getElem? (i := 162) (by decide +kernel))
set_option maxRecDepth 100000 in
theorem lR0_59 : (.fieldLink RX23 153 "OwnedPlacesModel$Item" "written" "[LOwnedPlacesModel$Written;" : Cond) ∈ lw_tbl := tb_10 _ (List.mem_of_getElem? (i := 49) (by decide +kernel))
theorem lR0 : ∀ w ∈ wC0, w ∈ lw_tbl := List.forall_mem_cons.mpr ⟨lR0_0, List.forall_mem_cons.mpr ⟨lR0_1, List.forall_mem_cons.mpr ⟨lR0_2, List.forall_mem_cons.mpr ⟨lR0_3, List.forall_mem_cons.mpr ⟨lR0_4, List.forall_mem_cons.mpr ⟨lR0_5, List.forall_mem_cons.mpr ⟨lR0_6, List.forall_mem_cons.mpr ⟨lR0_7, List.forall_mem_cons.mpr ⟨lR0_8, List.forall_mem_cons.mpr ⟨lR0_9, List.forall_mem_cons.mpr ⟨lR0_10, List.forall_mem_cons.mpr ⟨lR0_11, List.forall_mem_cons.mpr ⟨lR0_12, List.forall_mem_cons.mpr ⟨lR0_13, List.forall_mem_cons.mpr ⟨lR0_14, List.forall_mem_cons.mpr ⟨lR0_15, List.forall_mem_cons.mpr ⟨lR0_16, List.forall_mem_cons.mpr ⟨lR0_17, List.forall_mem_cons.mpr ⟨lR0_18, List.forall_mem_cons.mpr ⟨lR0_19, List.forall_mem_cons.mpr ⟨lR0_20, List.forall_mem_cons.mpr ⟨lR0_21, List.forall_mem_cons.mpr ⟨lR0_22, List.forall_mem_cons.mpr ⟨lR0_23, List.forall_mem_cons.mpr ⟨lR0_24, List.forall_mem_cons.mpr ⟨lR0_25, List.forall_mem_cons.mpr ⟨lR0_26, List.forall_mem_cons.mpr ⟨lR0_27, List.forall_mem_cons.mpr ⟨lR0_28, List.forall_mem_cons.mpr ⟨lR0_29, List.forall_mem_cons.mpr ⟨lR0_30, List.forall_mem_cons.mpr ⟨lR0_31, List.forall_mem_cons.mpr ⟨lR0_32, List.forall_mem_cons.mpr ⟨lR0_33, List.forall_mem_cons.mpr ⟨lR0_34, List.forall_mem_cons.mpr ⟨lR0_35, List.forall_mem_cons.mpr ⟨lR0_36, List.forall_mem_cons.mpr ⟨lR0_37, List.forall_mem_cons.mpr ⟨lR0_38, List.forall_mem_cons.mpr ⟨lR0_39, List.forall_mem_cons.mpr ⟨lR0_40, List.forall_mem_cons.mpr ⟨lR0_41, List.forall_mem_cons.mpr ⟨lR0_42, List.forall_mem_cons.mpr ⟨lR0_43, List.forall_mem_cons.mpr ⟨lR0_44, List.forall_mem_cons.mpr ⟨lR0_45, List.forall_mem_cons.mpr ⟨lR0_46, List.forall_mem_cons.mpr ⟨lR0_47, List.forall_mem_cons.mpr ⟨lR0_48, List.forall_mem_cons.mpr ⟨lR0_49, List.forall_mem_cons.mpr ⟨lR0_50, List.forall_mem_cons.mpr ⟨lR0_51, List.forall_mem_cons.mpr ⟨lR0_52, List.forall_mem_cons.mpr ⟨lR0_53, List.forall_mem_cons.mpr ⟨lR0_54, List.forall_mem_cons.mpr ⟨lR0_55, List.forall_mem_cons.mpr ⟨lR0_56, List.forall_mem_cons.mpr ⟨lR0_57, List.forall_mem_cons.mpr ⟨lR0_58, List.forall_mem_cons.mpr ⟨lR0_59, fun _ h => absurd h List.not_mem_nil⟩⟩⟩⟩⟩⟩⟩⟩⟩⟩⟩⟩⟩⟩⟩⟩⟩⟩⟩⟩⟩⟩⟩⟩⟩⟩⟩⟩⟩⟩⟩⟩⟩⟩⟩⟩⟩⟩⟩⟩⟩⟩⟩⟩⟩⟩⟩⟩⟩⟩⟩⟩⟩⟩⟩⟩⟩⟩⟩⟩
set_option maxRecDepth 100000 in
theorem lR1_0 : (.code yX23_variant cX23_variant 6 none : Cond) ∈ lw_tbl := tb_11 _ (List.mem_of_getElem? (i := 169) (by decide +kernel))
set_option maxRecDepth 100000 in
theorem lR1_1 : (.classLink RX23 156 RX17 : Cond) ∈ lw_tbl := tb_11 _ (List.mem_of_getElem? (i := 164) (by decide +kernel))
set_option maxRecDepth 100000 in
theorem lR1_2 : (.instantiable RX17 3 : Cond) ∈ lw_tbl := tb_11 _ (List.mem_of_getElem? (i := 170) (by decide +kernel))
set_option maxRecDepth 100000 in
theorem lR1_3 : (.initialized RX17 : Cond) ∈ lw_tbl := tb_1 _ (List.mem_of_getElem? (i := 28) (by decide +kernel))
set_option maxRecDepth 100000 in
theorem lR1_4 : (.instanceMethod yX17_init : Cond) ∈ lw_tbl := tb_11 _ (List.mem_of_getElem? (i := 172) (by decide +kernel))
set_option maxRecDepth 100000 in
theorem lR1_5 : (.fieldLink RX23 159 "OwnedPlacesModel$Item" "variants" "[LOwnedPlacesModel$Parts;" : Cond) ∈ lw_tbl := tb_10 _ (List.mem_of_getElem? (i := 51) (by decide +kernel))
set_option maxRecDepth 100000 in
theorem lR1_6 : (.fieldLink RX23 163 "OwnedPlacesModel$Parts" "written" "[LOwnedPlacesModel$Written;" : Cond) ∈ lw_tbl := tb_11 _ (List.mem_of_getElem? (i := 176) (by decide +kernel))
set_option maxRecDepth 100000 in
theorem lR1_7 : (.classLink RX23 164 RX20 : Cond) ∈ lw_tbl := tb_8 _ (List.mem_of_getElem? (i := 149) (by decide +kernel))
set_option maxRecDepth 100000 in
theorem lR1_8 : (.fieldLink RX23 166 "OwnedPlacesModel$Parts" "types" "[LOwnedPlacesModel$Type;" : Cond) ∈ lw_tbl := tb_11 _ (List.mem_of_getElem? (i := 177) (by decide +kernel))
set_option maxRecDepth 100000 in
theorem lR1_9 : (.fieldLink RX23 170 "OwnedPlacesModel$Parts" "many" "I" : Cond) ∈ lw_tbl := tb_11 _ (List.mem_of_getElem? (i := 175) (by decide +kernel))
set_option maxRecDepth 100000 in
theorem lR1_10 : (.code yX23_typeItem cX23_typeItem 3 none : Cond) ∈ lw_tbl := tb_11 _ (List.mem_of_getElem? (i := 163) (by decide +kernel))
set_option maxRecDepth 100000 in
theorem lR1_11 : (.fieldLink RX23 171 "OwnedPlacesModel" "typeItems" "I" : Cond) ∈ lw_tbl := tb_8 _ (List.mem_of_getElem? (i := 176) (by decide +kernel))
set_option maxRecDepth 100000 in
theorem lR1_12 : (.fieldLink RX23 174 "OwnedPlacesModel$Item" "kind" "I" : Cond) ∈ lw_tbl := tb_10 _ (List.mem_of_getElem? (i := 41) (by decide +kernel))
set_option maxRecDepth 100000 in
theorem lR1_13 : (.fieldLink RX23 175 "OwnedPlacesModel$Item" "types" "[LOwnedPlacesModel$Type;" : Cond) ∈ lw_tbl := tb_10 _ (List.mem_of_getElem? (i := 50) (by decide +kernel))
set_option maxRecDepth 100000 in
theorem lR1_14 : (.fieldLink RX23 176 "OwnedPlacesModel$Item" "name" "I" : Cond) ∈ lw_tbl := tb_10 _ (List.mem_of_getElem? (i := 40) (by decide +kernel))
set_option maxRecDepth 100000 in
theorem lR1_15 : (.methodLink RX23 177 yX23_fields : Cond) ∈ lw_tbl := tb_10 _ (List.mem_of_getElem? (i := 129) (by decide +kernel))
set_option maxRecDepth 100000 in
theorem lR1_16 : (.instanceMethod yX23_fields : Cond) ∈ lw_tbl := tb_10 _ (List.mem_of_getElem? (i := 131) (by decide +kernel))
set_option maxRecDepth 100000 in
theorem lR1_17 : (.selects RX23 yX23_fields yX23_fields : Cond) ∈ lw_tbl := List.mem_append_left _ (List.mem_of_getElem? (i := 166) (by decide +kernel))
set_option maxRecDepth 100000 in
theorem lR1_18 : (.methodLink RX23 181 yX23_variant : Cond) ∈ lw_tbl := tb_11 _ (List.mem_of_getElem? (i := 166) (by decide +kernel))
set_option maxRecDepth 100000 in
theorem lR1_19 : (.instanceMethod yX23_variant : Cond) ∈ lw_tbl := tb_11 _ (List.mem_of_getElem? (i := 168) (by decide +kernel))
set_option maxRecDepth 100000 in
theorem lR1_20 : (.selects RX23 yX23_variant yX23_variant : Cond) ∈ lw_tbl := List.mem_append_left _ (List.mem_of_getElem? (i := 189) (by decide +kernel))
set_option maxRecDepth 100000 in
theorem lR1_21 : (.code yX23_takeLives cX23_takeLives 3 none : Cond) ∈ lw_tbl := tb_10 _ (List.mem_of_getElem? (i := 128) (by decide +kernel))
set_option maxRecDepth 100000 in
theorem lR1_22 : (.fieldLink RX23 184 "OwnedPlacesModel$Item" "lives" "I" : Cond) ∈ lw_tbl := tb_10 _ (List.mem_of_getElem? (i := 45) (by decide +kernel))
set_option maxRecDepth 100000 in
theorem lR1_23 : (.fieldLink RX23 187 "OwnedPlacesModel$Item" "life" "[I" : Cond) ∈ lw_tbl := tb_10 _ (List.mem_of_getElem? (i := 52) (by decide +kernel))
set_option maxRecDepth 100000 in
theorem lR1_24 : (.code yX23_function cX23_function 3 none : Cond) ∈ lw_tbl := tb_10 _ (List.mem_of_getElem? (i := 110) (by decide +kernel))
set_option maxRecDepth 100000 in
theorem lR1_25 : (.fieldLink RX23 189 "OwnedPlacesModel" "functions" "I" : Cond) ∈ lw_tbl := tb_8 _ (List.mem_of_getElem? (i := 177) (by decide +kernel))
set_option maxRecDepth 100000 in
theorem lR1_26 : (.classLink RX23 192 RX21 : Cond) ∈ lw_tbl := tb_8 _ (List.mem_of_getElem? (i := 151) (by decide +kernel))
set_option maxRecDepth 100000 in
theorem lR1_27 : (.fieldLink RX23 194 "OwnedPlacesModel$Item" "parameters" "[LOwnedPlacesModel$Variable;" : Cond) ∈ lw_tbl := tb_10 _ (List.mem_of_getElem? (i := 57) (by decide +kernel))
set_option maxRecDepth 100000 in
theorem lR1_28 : (.arrayClass .int : Cond) ∈ lw_tbl := tb_1 _ (List.mem_of_getElem? (i := 193) (by decide +kernel))
set_option maxRecDepth 100000 in
theorem lR1_29 : (.fieldLink RX23 198 "OwnedPlacesModel$Item" "lifeOf" "[I" : Cond) ∈ lw_tbl := tb_10 _ (List.mem_of_getElem? (i := 53) (by decide +kernel))
set_option maxRecDepth 100000 in
theorem lR1_30 : (.methodLink RX23 201 yX23_takeLives : Cond) ∈ lw_tbl := tb_10 _ (List.mem_of_getElem? (i := 125) (by decide +kernel))
set_option maxRecDepth 100000 in
theorem lR1_31 : (.instanceMethod yX23_takeLives : Cond) ∈ lw_tbl := tb_10 _ (List.mem_of_getElem? (i := 127) (by decide +kernel))
set_option maxRecDepth 100000 in
theorem lR1_32 : (.selects RX23 yX23_takeLives yX23_takeLives : Cond) ∈ lw_tbl := List.mem_append_left _ (List.mem_of_getElem? (i := 165) (by decide +kernel))
set_option maxRecDepth 100000 in
theorem lR1_33 : (.fieldLink RX23 204 "OwnedPlacesModel" "variables" "I" : Cond) ∈ lw_tbl := tb_8 _ (List.mem_of_getElem? (i := 179) (by decide +kernel))
set_option maxRecDepth 100000 in
theorem lR1_34 : (.fieldLink RX23 207 "OwnedPlacesModel" "borrows" "I" : Cond) ∈ lw_tbl := tb_8 _ (List.mem_of_getElem? (i := 180) (by decide +kernel))
set_option maxRecDepth 100000 in
theorem lR1_35 : (.fieldLink RX23 210 "OwnedPlacesModel$Item" "result" "LOwnedPlacesModel$Written;" : Cond) ∈ lw_tbl := tb_10 _ (List.mem_of_getElem? (i := 54) (by decide +kernel))
set_option maxRecDepth 100000 in
theorem lR1_36 : (.methodLink RX23 213 yX23_block : Cond) ∈ lw_tbl := tb_10 _ (List.mem_of_getElem? (i := 167) (by decide +kernel))
set_option maxRecDepth 100000 in
theorem lR1_37 : (.instanceMethod yX23_block : Cond) ∈ lw_tbl := tb_10 _ (List.mem_of_getElem? (i := 169) (by decide +kernel))
set_option maxRecDepth 100000 in
theorem lR1_38 : (.selects RX23 yX23_block yX23_block : Cond) ∈ lw_tbl := List.mem_append_left _ (List.mem_of_getElem? (i := 170) (by decide +kernel))
set_option maxRecDepth 100000 in
theorem lR1_39 : (.fieldLink RX23 217 "OwnedPlacesModel$Item" "block" "LOwnedPlacesModel$Block;" : Cond) ∈ lw_tbl := tb_10 _ (List.mem_of_getElem? (i := 56) (by decide +kernel))
set_option maxRecDepth 100000 in
theorem lR1_40 : (.fieldLink RX23 220 "OwnedPlacesModel$Item" "variables" "I" : Cond) ∈ lw_tbl := tb_10 _ (List.mem_of_getElem? (i := 58) (by decide +kernel))
set_option maxRecDepth 100000 in
theorem lR1_41 : (.code yX23_program cX23_program 2 none : Cond) ∈ lw_tbl := tb_10 _ (List.mem_of_getElem? (i := 21) (by decide +kernel))
set_option maxRecDepth 100000 in
theorem lR1_42 : (.fieldLink RX23 221 "OwnedPlacesModel" "itemMany" "I" : Cond) ∈ lw_tbl := tb_8 _ (List.mem_of_getElem? (i := 175) (by decide +kernel))
set_option maxRecDepth 100000 in
theorem lR1_43 : (.classLink RX23 140 RX16 : Cond) ∈ lw_tbl := tb_8 _ (List.mem_of_getElem? (i := 147) (by decide +kernel))
set_option maxRecDepth 100000 in
theorem lR1_44 : (.instantiable RX16 22 : Cond) ∈ lw_tbl := tb_10 _ (List.mem_of_getElem? (i := 34) (by decide +kernel))
set_option maxRecDepth 100000 in
theorem lR1_45 : (.initialized RX16 : Cond) ∈ lw_tbl := tb_1 _ (List.mem_of_getElem? (i := 22) (by decide +kernel))
set_option maxRecDepth 100000 in
theorem lR1_46 : (.instanceMethod yX16_init : Cond) ∈ lw_tbl := tb_10 _ (List.mem_of_getElem? (i := 36) (by decide +kernel))
set_option maxRecDepth 100000 in
theorem lR1_47 : (.fieldLink RX23 225 "OwnedPlacesModel$Item" "token" "I" : Cond) ∈ lw_tbl := tb_10 _ (List.mem_of_getElem? (i := 39) (by decide +kernel))
set_option maxRecDepth 100000 in
theorem lR1_48 : (.methodLink RX23 226 yX23_function : Cond) ∈ lw_tbl := tb_10 _ (List.mem_of_getElem? (i := 107) (by decide +kernel))
set_option maxRecDepth 100000 in
theorem lR1_49 : (.instanceMethod yX23_function : Cond) ∈ lw_tbl := tb_10 _ (List.mem_of_getElem? (i := 109) (by decide +kernel))
set_option maxRecDepth 100000 in
theorem lR1_50 : (.selects RX23 yX23_function yX23_function : Cond) ∈ lw_tbl := List.mem_append_left _ (List.mem_of_getElem? (i := 161) (by decide +kernel))
set_option maxRecDepth 100000 in
theorem lR1_51 : (.methodLink RX23 229 yX23_typeItem : Cond) ∈ lw_tbl := tb_11 _ (List.mem_of_getElem? (i := 160) (by decide +kernel))
set_option maxRecDepth 100000 in
theorem lR1_52 : (.instanceMethod yX23_typeItem : Cond) ∈ lw_tbl := tb_11 _ (List.mem_of_getElem? (i := 162) (by decide +kernel))
set_option maxRecDepth 100000 in
theorem lR1_53 : (.selects RX23 yX23_typeItem yX23_typeItem : Cond) ∈ lw_tbl := List.mem_append_left _ (List.mem_of_getElem? (i := 188) (by decide +kernel))
set_option maxRecDepth 100000 in
theorem lR1_54 : (.fieldLink RX23 232 "OwnedPlacesModel" "items" "[LOwnedPlacesModel$Item;" : Cond) ∈ lw_tbl := tb_8 _ (List.mem_of_getElem? (i := 174) (by decide +kernel))
set_option maxRecDepth 100000 in
theorem lR1_55 : (.code yX23_block cX23_block 5 (some (.object "OwnedPlacesModel$Block")) : Cond) ∈ lw_tbl := tb_10 _ (List.mem_of_getElem? (i := 170) (by decide +kernel))
set_option maxRecDepth 100000 in
theorem lR1_56 : (.classLink RX23 236 RX14 : Cond) ∈ lw_tbl := tb_10 _ (List.mem_of_getElem? (i := 171) (by decide +kernel))
set_option maxRecDepth 100000 in
theorem lR1_57 : (.instantiable RX14 4 : Cond) ∈ lw_tbl := tb_10 _ (List.mem_of_getElem? (i := 172) (by decide +kernel))
set_option maxRecDepth 100000 in
theorem lR1_58 : (.initialized RX14 : Cond) ∈ lw_tbl := tb_1 _ (List.mem_of_getElem? (i := 24) (by decide +kernel))
set_option maxRecDepth 100000 in
theorem lR1_59 : (.instanceMethod yX14_init : Cond) ∈ lw_tbl := tb_10 _ (List.mem_of_getElem? (i := 174) (by decide +kernel))
theorem lR1 : ∀ w ∈ wC1, w ∈ lw_tbl := List.forall_mem_cons.mpr ⟨lR1_0, List.forall_mem_cons.mpr ⟨lR1_1, List.forall_mem_cons.mpr ⟨lR1_2, List.forall_mem_cons.mpr ⟨lR1_3, List.forall_mem_cons.mpr ⟨lR1_4, List.forall_mem_cons.mpr ⟨lR1_5, List.forall_mem_cons.mpr ⟨lR1_6, List.forall_mem_cons.mpr ⟨lR1_7, List.forall_mem_cons.mpr ⟨lR1_8, List.forall_mem_cons.mpr ⟨lR1_9, List.forall_mem_cons.mpr ⟨lR1_10, List.forall_mem_cons.mpr ⟨lR1_11, List.forall_mem_cons.mpr ⟨lR1_12, List.forall_mem_cons.mpr ⟨lR1_13, List.forall_mem_cons.mpr ⟨lR1_14, List.forall_mem_cons.mpr ⟨lR1_15, List.forall_mem_cons.mpr ⟨lR1_16, List.forall_mem_cons.mpr ⟨lR1_17, List.forall_mem_cons.mpr ⟨lR1_18, List.forall_mem_cons.mpr ⟨lR1_19, List.forall_mem_cons.mpr ⟨lR1_20, List.forall_mem_cons.mpr ⟨lR1_21, List.forall_mem_cons.mpr ⟨lR1_22, List.forall_mem_cons.mpr ⟨lR1_23, List.forall_mem_cons.mpr ⟨lR1_24, List.forall_mem_cons.mpr ⟨lR1_25, List.forall_mem_cons.mpr ⟨lR1_26, List.forall_mem_cons.mpr ⟨lR1_27, List.forall_mem_cons.mpr ⟨lR1_28, List.forall_mem_cons.mpr ⟨lR1_29, List.forall_mem_cons.mpr ⟨lR1_30, List.forall_mem_cons.mpr ⟨lR1_31, List.forall_mem_cons.mpr ⟨lR1_32, List.forall_mem_cons.mpr ⟨lR1_33, List.forall_mem_cons.mpr ⟨lR1_34, List.forall_mem_cons.mpr ⟨lR1_35, List.forall_mem_cons.mpr ⟨lR1_36, List.forall_mem_cons.mpr ⟨lR1_37, List.forall_mem_cons.mpr ⟨lR1_38, List.forall_mem_cons.mpr ⟨lR1_39, List.forall_mem_cons.mpr ⟨lR1_40, List.forall_mem_cons.mpr ⟨lR1_41, List.forall_mem_cons.mpr ⟨lR1_42, List.forall_mem_cons.mpr ⟨lR1_43, List.forall_mem_cons.mpr ⟨lR1_44, List.forall_mem_cons.mpr ⟨lR1_45, List.forall_mem_cons.mpr ⟨lR1_46, List.forall_mem_cons.mpr ⟨lR1_47, List.forall_mem_cons.mpr ⟨lR1_48, List.forall_mem_cons.mpr ⟨lR1_49, List.forall_mem_cons.mpr ⟨lR1_50, List.forall_mem_cons.mpr ⟨lR1_51, List.forall_mem_cons.mpr ⟨lR1_52, List.forall_mem_cons.mpr ⟨lR1_53, List.forall_mem_cons.mpr ⟨lR1_54, List.forall_mem_cons.mpr ⟨lR1_55, List.forall_mem_cons.mpr ⟨lR1_56, List.forall_mem_cons.mpr ⟨lR1_57, List.forall_mem_cons.mpr ⟨lR1_58, List.forall_mem_cons.mpr ⟨lR1_59, fun _ h => absurd h List.not_mem_nil⟩⟩⟩⟩⟩⟩⟩⟩⟩⟩⟩⟩⟩⟩⟩⟩⟩⟩⟩⟩⟩⟩⟩⟩⟩⟩⟩⟩⟩⟩⟩⟩⟩⟩⟩⟩⟩⟩⟩⟩⟩⟩⟩⟩⟩⟩⟩⟩⟩⟩⟩⟩⟩⟩⟩⟩⟩⟩⟩⟩
set_option maxRecDepth 100000 in
theorem lR2_0 : (.fieldLink RX23 239 "OwnedPlacesModel$Block" "token" "I" : Cond) ∈ lw_tbl := tb_10 _ (List.mem_of_getElem? (i := 179) (by decide +kernel))
set_option maxRecDepth 100000 in
theorem lR2_1 : (.methodLink RX23 240 yX23_statement : Cond) ∈ lw_tbl := tb_10 _ (List.mem_of_getElem? (i := 193) (by decide +kernel))
set_option maxRecDepth 100000 in
theorem lR2_2 : (.instanceMethod yX23_statement : Cond) ∈ lw_tbl := tb_10 _ (List.mem_of_getElem? (i := 195) (by decide +kernel))
set_option maxRecDepth 100000 in
theorem lR2_3 : (.selects RX23 yX23_statement yX23_statement : Cond) ∈ lw_tbl := List.mem_append_left _ (List.mem_of_getElem? (i := 171) (by decide +kernel))
set_option maxRecDepth 100000 in
theorem lR2_4 : (.fieldLink RX23 244 "OwnedPlacesModel$Block" "many" "I" : Cond) ∈ lw_tbl := tb_10 _ (List.mem_of_getElem? (i := 183) (by decide +kernel))
set_option maxRecDepth 100000 in
theorem lR2_5 : (.fieldLink RX23 245 "OwnedPlacesModel$Block" "list" "[LOwnedPlacesModel$Statement;" : Cond) ∈ lw_tbl := tb_10 _ (List.mem_of_getElem? (i := 182) (by decide +kernel))
set_option maxRecDepth 100000 in
theorem lR2_6 : (.classLink RX23 249 RX19 : Cond) ∈ lw_tbl := tb_10 _ (List.mem_of_getElem? (i := 197) (by decide +kernel))
set_option maxRecDepth 100000 in
theorem lR2_7 : (.fieldLink RX23 251 "OwnedPlacesModel$Block" "end" "I" : Cond) ∈ lw_tbl := tb_10 _ (List.mem_of_getElem? (i := 180) (by decide +kernel))
set_option maxRecDepth 100000 in
theorem lR2_8 : (.code yX23_oneVariable cX23_oneVariable 1 none : Cond) ∈ lw_tbl := tb_11 _ (List.mem_of_getElem? (i := 13) (by decide +kernel))
set_option maxRecDepth 100000 in
theorem lR2_9 : (.code yX23_statement cX23_statement 2 (some (.object "OwnedPlacesModel$Statement")) : Cond) ∈ lw_tbl := tb_10 _ (List.mem_of_getElem? (i := 196) (by decide +kernel))
set_option maxRecDepth 100000 in
theorem lR2_10 : (.instantiable RX19 14 : Cond) ∈ lw_tbl := tb_10 _ (List.mem_of_getElem? (i := 198) (by decide +kernel))
set_option maxRecDepth 100000 in
theorem lR2_11 : (.initialized RX19 : Cond) ∈ lw_tbl := tb_1 _ (List.mem_of_getElem? (i := 25) (by decide +kernel))
set_option maxRecDepth 100000 in
theorem lR2_12 : (.instanceMethod yX19_init : Cond) ∈ lw_tbl := tb_10 _ (List.mem_of_getElem? (i := 200) (by decide +kernel))
set_option maxRecDepth 100000 in
theorem lR2_13 : (.fieldLink RX23 255 "OwnedPlacesModel$Statement" "token" "I" : Cond) ∈ lw_tbl := tb_10 _ (List.mem_of_getElem? (i := 204) (by decide +kernel))
set_option maxRecDepth 100000 in
theorem lR2_14 : (.methodLink RX23 256 yX23_let : Cond) ∈ lw_tbl := tb_11 _ (List.mem_of_getElem? (i := 6) (by decide +kernel))
set_option maxRecDepth 100000 in
theorem lR2_15 : (.instanceMethod yX23_let : Cond) ∈ lw_tbl := tb_11 _ (List.mem_of_getElem? (i := 8) (by decide +kernel))
set_option maxRecDepth 100000 in
theorem lR2_16 : (.selects RX23 yX23_let yX23_let : Cond) ∈ lw_tbl := List.mem_append_left _ (List.mem_of_getElem? (i := 172) (by decide +kernel))
set_option maxRecDepth 100000 in
theorem lR2_17 : (.methodLink RX23 260 yX23_branch : Cond) ∈ lw_tbl := tb_11 _ (List.mem_of_getElem? (i := 110) (by decide +kernel))
set_option maxRecDepth 100000 in
theorem lR2_18 : (.instanceMethod yX23_branch : Cond) ∈ lw_tbl := tb_11 _ (List.mem_of_getElem? (i := 112) (by decide +kernel))
set_option maxRecDepth 100000 in
theorem lR2_19 : (.selects RX23 yX23_branch yX23_branch : Cond) ∈ lw_tbl := List.mem_append_left _ (List.mem_of_getElem? (i := 184) (by decide +kernel))
set_option maxRecDepth 100000 in
theorem lR2_20 : (.fieldLink RX23 263 "OwnedPlacesModel$Statement" "kind" "I" : Cond) ∈ lw_tbl := tb_10 _ (List.mem_of_getElem? (i := 203) (by decide +kernel))
set_option maxRecDepth 100000 in
theorem lR2_21 : (.methodLink RX23 264 yX23_exp : Cond) ∈ lw_tbl := tb_11 _ (List.mem_of_getElem? (i := 14) (by decide +kernel))
set_option maxRecDepth 100000 in
theorem lR2_22 : (.instanceMethod yX23_exp : Cond) ∈ lw_tbl := tb_11 _ (List.mem_of_getElem? (i := 16) (by decide +kernel))
set_option maxRecDepth 100000 in
theorem lR2_23 : (.selects RX23 yX23_exp yX23_exp : Cond) ∈ lw_tbl := List.mem_append_left _ (List.mem_of_getElem? (i := 174) (by decide +kernel))
set_option maxRecDepth 100000 in
theorem lR2_24 : (.fieldLink RX23 268 "OwnedPlacesModel$Statement" "exp" "LOwnedPlacesModel$Exp;" : Cond) ∈ lw_tbl := tb_10 _ (List.mem_of_getElem? (i := 209) (by decide +kernel))
set_option maxRecDepth 100000 in
theorem lR2_25 : (.fieldLink RX23 271 "OwnedPlacesModel$Statement" "block" "LOwnedPlacesModel$Block;" : Cond) ∈ lw_tbl := tb_10 _ (List.mem_of_getElem? (i := 212) (by decide +kernel))
set_option maxRecDepth 100000 in
theorem lR2_26 : (.methodLink RX23 272 yX23_match : Cond) ∈ lw_tbl := tb_11 _ (List.mem_of_getElem? (i := 118) (by decide +kernel))
set_option maxRecDepth 100000 in
theorem lR2_27 : (.instanceMethod yX23_match : Cond) ∈ lw_tbl := tb_11 _ (List.mem_of_getElem? (i := 120) (by decide +kernel))
set_option maxRecDepth 100000 in
theorem lR2_28 : (.selects RX23 yX23_match yX23_match : Cond) ∈ lw_tbl := List.mem_append_left _ (List.mem_of_getElem? (i := 185) (by decide +kernel))
set_option maxRecDepth 100000 in
theorem lR2_29 : (.methodLink RX23 275 yX23_plain : Cond) ∈ lw_tbl := tb_11 _ (List.mem_of_getElem? (i := 156) (by decide +kernel))
set_option maxRecDepth 100000 in
theorem lR2_30 : (.instanceMethod yX23_plain : Cond) ∈ lw_tbl := tb_11 _ (List.mem_of_getElem? (i := 158) (by decide +kernel))
set_option maxRecDepth 100000 in
theorem lR2_31 : (.selects RX23 yX23_plain yX23_plain : Cond) ∈ lw_tbl := List.mem_append_left _ (List.mem_of_getElem? (i := 187) (by decide +kernel))
set_option maxRecDepth 100000 in
theorem lR2_32 : (.code yX23_let cX23_let 2 none : Cond) ∈ lw_tbl := tb_11 _ (List.mem_of_getElem? (i := 9) (by decide +kernel))
set_option maxRecDepth 100000 in
theorem lR2_33 : (.fieldLink RX23 278 "OwnedPlacesModel$Statement" "mut" "Z" : Cond) ∈ lw_tbl := tb_10 _ (List.mem_of_getElem? (i := 206) (by decide +kernel))
set_option maxRecDepth 100000 in
theorem lR2_34 : (.methodLink RX23 282 yX23_oneVariable : Cond) ∈ lw_tbl := tb_11 _ (List.mem_of_getElem? (i := 10) (by decide +kernel))
set_option maxRecDepth 100000 in
theorem lR2_35 : (.instanceMethod yX23_oneVariable : Cond) ∈ lw_tbl := tb_11 _ (List.mem_of_getElem? (i := 12) (by decide +kernel))
set_option maxRecDepth 100000 in
theorem lR2_36 : (.selects RX23 yX23_oneVariable yX23_oneVariable : Cond) ∈ lw_tbl := List.mem_append_left _ (List.mem_of_getElem? (i := 173) (by decide +kernel))
set_option maxRecDepth 100000 in
theorem lR2_37 : (.fieldLink RX23 285 "OwnedPlacesModel$Statement" "name" "I" : Cond) ∈ lw_tbl := tb_10 _ (List.mem_of_getElem? (i := 205) (by decide +kernel))
set_option maxRecDepth 100000 in
theorem lR2_38 : (.fieldLink RX23 286 "OwnedPlacesModel$Statement" "written" "LOwnedPlacesModel$Written;" : Cond) ∈ lw_tbl := tb_10 _ (List.mem_of_getElem? (i := 208) (by decide +kernel))
set_option maxRecDepth 100000 in
theorem lR2_39 : (.code yX23_plain cX23_plain 2 none : Cond) ∈ lw_tbl := tb_11 _ (List.mem_of_getElem? (i := 159) (by decide +kernel))
set_option maxRecDepth 100000 in
theorem lR2_40 : (.methodLink RX23 288 yX23_isPlace : Cond) ∈ lw_tbl := tb_11 _ (List.mem_of_getElem? (i := 122) (by decide +kernel))
set_option maxRecDepth 100000 in
theorem lR2_41 : (.static yX23_isPlace : Cond) ∈ lw_tbl := tb_11 _ (List.mem_of_getElem? (i := 123) (by decide +kernel))
set_option maxRecDepth 100000 in
theorem lR2_42 : (.fieldLink RX23 292 "OwnedPlacesModel$Statement" "place" "LOwnedPlacesModel$Exp;" : Cond) ∈ lw_tbl := tb_10 _ (List.mem_of_getElem? (i := 210) (by decide +kernel))
set_option maxRecDepth 100000 in
theorem lR2_43 : (.code yX23_branch cX23_branch 4 none : Cond) ∈ lw_tbl := tb_11 _ (List.mem_of_getElem? (i := 113) (by decide +kernel))
set_option maxRecDepth 100000 in
theorem lR2_44 : (.classLink RX23 295 RX15 : Cond) ∈ lw_tbl := tb_11 _ (List.mem_of_getElem? (i := 26) (by decide +kernel))
set_option maxRecDepth 100000 in
theorem lR2_45 : (.fieldLink RX23 297 "OwnedPlacesModel$Statement" "conditions" "[LOwnedPlacesModel$Exp;" : Cond) ∈ lw_tbl := tb_10 _ (List.mem_of_getElem? (i := 213) (by decide +kernel))
set_option maxRecDepth 100000 in
theorem lR2_46 : (.fieldLink RX23 301 "OwnedPlacesModel$Statement" "blocks" "[LOwnedPlacesModel$Block;" : Cond) ∈ lw_tbl := tb_10 _ (List.mem_of_getElem? (i := 214) (by decide +kernel))
set_option maxRecDepth 100000 in
theorem lR2_47 : (.fieldLink RX23 305 "OwnedPlacesModel$Statement" "many" "I" : Cond) ∈ lw_tbl := tb_10 _ (List.mem_of_getElem? (i := 216) (by decide +kernel))
set_option maxRecDepth 100000 in
theorem lR2_48 : (.methodLink RX23 306 yX23_growBranch : Cond) ∈ lw_tbl := tb_11 _ (List.mem_of_getElem? (i := 115) (by decide +kernel))
set_option maxRecDepth 100000 in
theorem lR2_49 : (.static yX23_growBranch : Cond) ∈ lw_tbl := tb_11 _ (List.mem_of_getElem? (i := 116) (by decide +kernel))
set_option maxRecDepth 100000 in
theorem lR2_50 : (.code yX23_growBranch cX23_growBranch 4 none : Cond) ∈ lw_tbl := tb_11 _ (List.mem_of_getElem? (i := 117) (by decide +kernel))
set_option maxRecDepth 100000 in
theorem lR2_51 : (.code yX23_borrow cX23_borrow 1 none : Cond) ∈ lw_tbl := tb_11 _ (List.mem_of_getElem? (i := 106) (by decide +kernel))
set_option maxRecDepth 100000 in
theorem lR2_52 : (.code yX23_match cX23_match 4 none : Cond) ∈ lw_tbl := tb_11 _ (List.mem_of_getElem? (i := 121) (by decide +kernel))
set_option maxRecDepth 100000 in
theorem lR2_53 : (.methodLink RX23 309 yX23_borrow : Cond) ∈ lw_tbl := tb_11 _ (List.mem_of_getElem? (i := 103) (by decide +kernel))
set_option maxRecDepth 100000 in
theorem lR2_54 : (.instanceMethod yX23_borrow : Cond) ∈ lw_tbl := tb_11 _ (List.mem_of_getElem? (i := 105) (by decide +kernel))
set_option maxRecDepth 100000 in
theorem lR2_55 : (.selects RX23 yX23_borrow yX23_borrow : Cond) ∈ lw_tbl := List.mem_append_left _ (List.mem_of_getElem? (i := 183) (by decide +kernel))
set_option maxRecDepth 100000 in
theorem lR2_56 : (.fieldLink RX23 312 "OwnedPlacesModel$Statement" "refers" "Z" : Cond) ∈ lw_tbl := tb_10 _ (List.mem_of_getElem? (i := 207) (by decide +kernel))
set_option maxRecDepth 100000 in
theorem lR2_57 : (.classLink RX23 315 RX13 : Cond) ∈ lw_tbl := tb_8 _ (List.mem_of_getElem? (i := 157) (by decide +kernel))
set_option maxRecDepth 100000 in
theorem lR2_58 : (.fieldLink RX23 317 "OwnedPlacesModel$Statement" "arms" "[LOwnedPlacesModel$Arm;" : Cond) ∈ lw_tbl := tb_10 _ (List.mem_of_getElem? (i := 215) (by decide +kernel))
set_option maxRecDepth 100000 in
theorem lR2_59 : (.methodLink RX23 321 yX23_arm : Cond) ∈ lw_tbl := tb_11 _ (List.mem_of_getElem? (i := 125) (by decide +kernel))
theorem lR2 : ∀ w ∈ wC2, w ∈ lw_tbl := List.forall_mem_cons.mpr ⟨lR2_0, List.forall_mem_cons.mpr ⟨lR2_1, List.forall_mem_cons.mpr ⟨lR2_2, List.forall_mem_cons.mpr ⟨lR2_3, List.forall_mem_cons.mpr ⟨lR2_4, List.forall_mem_cons.mpr ⟨lR2_5, List.forall_mem_cons.mpr ⟨lR2_6, List.forall_mem_cons.mpr ⟨lR2_7, List.forall_mem_cons.mpr ⟨lR2_8, List.forall_mem_cons.mpr ⟨lR2_9, List.forall_mem_cons.mpr ⟨lR2_10, List.forall_mem_cons.mpr ⟨lR2_11, List.forall_mem_cons.mpr ⟨lR2_12, List.forall_mem_cons.mpr ⟨lR2_13, List.forall_mem_cons.mpr ⟨lR2_14, List.forall_mem_cons.mpr ⟨lR2_15, List.forall_mem_cons.mpr ⟨lR2_16, List.forall_mem_cons.mpr ⟨lR2_17, List.forall_mem_cons.mpr ⟨lR2_18, List.forall_mem_cons.mpr ⟨lR2_19, List.forall_mem_cons.mpr ⟨lR2_20, List.forall_mem_cons.mpr ⟨lR2_21, List.forall_mem_cons.mpr ⟨lR2_22, List.forall_mem_cons.mpr ⟨lR2_23, List.forall_mem_cons.mpr ⟨lR2_24, List.forall_mem_cons.mpr ⟨lR2_25, List.forall_mem_cons.mpr ⟨lR2_26, List.forall_mem_cons.mpr ⟨lR2_27, List.forall_mem_cons.mpr ⟨lR2_28, List.forall_mem_cons.mpr ⟨lR2_29, List.forall_mem_cons.mpr ⟨lR2_30, List.forall_mem_cons.mpr ⟨lR2_31, List.forall_mem_cons.mpr ⟨lR2_32, List.forall_mem_cons.mpr ⟨lR2_33, List.forall_mem_cons.mpr ⟨lR2_34, List.forall_mem_cons.mpr ⟨lR2_35, List.forall_mem_cons.mpr ⟨lR2_36, List.forall_mem_cons.mpr ⟨lR2_37, List.forall_mem_cons.mpr ⟨lR2_38, List.forall_mem_cons.mpr ⟨lR2_39, List.forall_mem_cons.mpr ⟨lR2_40, List.forall_mem_cons.mpr ⟨lR2_41, List.forall_mem_cons.mpr ⟨lR2_42, List.forall_mem_cons.mpr ⟨lR2_43, List.forall_mem_cons.mpr ⟨lR2_44, List.forall_mem_cons.mpr ⟨lR2_45, List.forall_mem_cons.mpr ⟨lR2_46, List.forall_mem_cons.mpr ⟨lR2_47, List.forall_mem_cons.mpr ⟨lR2_48, List.forall_mem_cons.mpr ⟨lR2_49, List.forall_mem_cons.mpr ⟨lR2_50, List.forall_mem_cons.mpr ⟨lR2_51, List.forall_mem_cons.mpr ⟨lR2_52, List.forall_mem_cons.mpr ⟨lR2_53, List.forall_mem_cons.mpr ⟨lR2_54, List.forall_mem_cons.mpr ⟨lR2_55, List.forall_mem_cons.mpr ⟨lR2_56, List.forall_mem_cons.mpr ⟨lR2_57, List.forall_mem_cons.mpr ⟨lR2_58, List.forall_mem_cons.mpr ⟨lR2_59, fun _ h => absurd h List.not_mem_nil⟩⟩⟩⟩⟩⟩⟩⟩⟩⟩⟩⟩⟩⟩⟩⟩⟩⟩⟩⟩⟩⟩⟩⟩⟩⟩⟩⟩⟩⟩⟩⟩⟩⟩⟩⟩⟩⟩⟩⟩⟩⟩⟩⟩⟩⟩⟩⟩⟩⟩⟩⟩⟩⟩⟩⟩⟩⟩⟩⟩
set_option maxRecDepth 100000 in
theorem lR3_0 : (.instanceMethod yX23_arm : Cond) ∈ lw_tbl := tb_11 _ (List.mem_of_getElem? (i := 127) (by decide +kernel))
set_option maxRecDepth 100000 in
theorem lR3_1 : (.selects RX23 yX23_arm yX23_arm : Cond) ∈ lw_tbl := List.mem_append_left _ (List.mem_of_getElem? (i := 186) (by decide +kernel))
set_option maxRecDepth 100000 in
theorem lR3_2 : (.code yX23_arm cX23_arm 4 (some (.object "OwnedPlacesModel$Arm")) : Cond) ∈ lw_tbl := tb_11 _ (List.mem_of_getElem? (i := 128) (by decide +kernel))
set_option maxRecDepth 100000 in
theorem lR3_3 : (.instantiable RX13 6 : Cond) ∈ lw_tbl := tb_11 _ (List.mem_of_getElem? (i := 129) (by decide +kernel))
set_option maxRecDepth 100000 in
theorem lR3_4 : (.initialized RX13 : Cond) ∈ lw_tbl := tb_1 _ (List.mem_of_getElem? (i := 27) (by decide +kernel))
set_option maxRecDepth 100000 in
theorem lR3_5 : (.instanceMethod yX13_init : Cond) ∈ lw_tbl := tb_11 _ (List.mem_of_getElem? (i := 131) (by decide +kernel))
set_option maxRecDepth 100000 in
theorem lR3_6 : (.fieldLink RX23 326 "OwnedPlacesModel$Arm" "token" "I" : Cond) ∈ lw_tbl := tb_11 _ (List.mem_of_getElem? (i := 135) (by decide +kernel))
set_option maxRecDepth 100000 in
theorem lR3_7 : (.fieldLink RX23 327 "OwnedPlacesModel$Arm" "many" "I" : Cond) ∈ lw_tbl := tb_11 _ (List.mem_of_getElem? (i := 139) (by decide +kernel))
set_option maxRecDepth 100000 in
theorem lR3_8 : (.fieldLink RX23 328 "OwnedPlacesModel$Arm" "names" "[I" : Cond) ∈ lw_tbl := tb_11 _ (List.mem_of_getElem? (i := 138) (by decide +kernel))
set_option maxRecDepth 100000 in
theorem lR3_9 : (.fieldLink RX23 329 "OwnedPlacesModel$Arm" "block" "LOwnedPlacesModel$Block;" : Cond) ∈ lw_tbl := tb_11 _ (List.mem_of_getElem? (i := 142) (by decide +kernel))
set_option maxRecDepth 100000 in
theorem lR3_10 : (.code yX23_isPlace cX23_isPlace 2 (some .boolean) : Cond) ∈ lw_tbl := tb_11 _ (List.mem_of_getElem? (i := 124) (by decide +kernel))
set_option maxRecDepth 100000 in
theorem lR3_11 : (.fieldLink RX23 330 "OwnedPlacesModel$Exp" "kind" "I" : Cond) ∈ lw_tbl := tb_11 _ (List.mem_of_getElem? (i := 32) (by decide +kernel))
set_option maxRecDepth 100000 in
theorem lR3_12 : (.fieldLink RX23 331 "OwnedPlacesModel$Exp" "of" "LOwnedPlacesModel$Exp;" : Cond) ∈ lw_tbl := tb_11 _ (List.mem_of_getElem? (i := 40) (by decide +kernel))
set_option maxRecDepth 100000 in
theorem lR3_13 : (.code yX23_exp cX23_exp 1 (some (.object "OwnedPlacesModel$Exp")) : Cond) ∈ lw_tbl := tb_11 _ (List.mem_of_getElem? (i := 17) (by decide +kernel))
set_option maxRecDepth 100000 in
theorem lR3_14 : (.methodLink RX23 333 yX23_chain : Cond) ∈ lw_tbl := tb_11 _ (List.mem_of_getElem? (i := 18) (by decide +kernel))
set_option maxRecDepth 100000 in
theorem lR3_15 : (.instanceMethod yX23_chain : Cond) ∈ lw_tbl := tb_11 _ (List.mem_of_getElem? (i := 20) (by decide +kernel))
set_option maxRecDepth 100000 in
theorem lR3_16 : (.selects RX23 yX23_chain yX23_chain : Cond) ∈ lw_tbl := List.mem_append_left _ (List.mem_of_getElem? (i := 175) (by decide +kernel))
set_option maxRecDepth 100000 in
theorem lR3_17 : (.code yX23_levelOf cX23_levelOf 1 (some .int) : Cond) ∈ lw_tbl := tb_11 _ (List.mem_of_getElem? (i := 109) (by decide +kernel))
set_option maxRecDepth 100000 in
theorem lR3_18 : (.code yX23_add cX23_add 6 none : Cond) ∈ lw_tbl := tb_11 _ (List.mem_of_getElem? (i := 93) (by decide +kernel))
set_option maxRecDepth 100000 in
theorem lR3_19 : (.fieldLink RX23 337 "OwnedPlacesModel$Exp" "list" "[LOwnedPlacesModel$Exp;" : Cond) ∈ lw_tbl := tb_11 _ (List.mem_of_getElem? (i := 41) (by decide +kernel))
set_option maxRecDepth 100000 in
theorem lR3_20 : (.fieldLink RX23 339 "OwnedPlacesModel$Exp" "signs" "[I" : Cond) ∈ lw_tbl := tb_11 _ (List.mem_of_getElem? (i := 42) (by decide +kernel))
set_option maxRecDepth 100000 in
theorem lR3_21 : (.fieldLink RX23 342 "OwnedPlacesModel$Exp" "many" "I" : Cond) ∈ lw_tbl := tb_11 _ (List.mem_of_getElem? (i := 43) (by decide +kernel))
set_option maxRecDepth 100000 in
theorem lR3_22 : (.code yX23_chain cX23_chain 6 (some (.object "OwnedPlacesModel$Exp")) : Cond) ∈ lw_tbl := tb_11 _ (List.mem_of_getElem? (i := 21) (by decide +kernel))
set_option maxRecDepth 100000 in
theorem lR3_23 : (.methodLink RX23 343 yX23_unary : Cond) ∈ lw_tbl := tb_11 _ (List.mem_of_getElem? (i := 22) (by decide +kernel))
set_option maxRecDepth 100000 in
theorem lR3_24 : (.instanceMethod yX23_unary : Cond) ∈ lw_tbl := tb_11 _ (List.mem_of_getElem? (i := 24) (by decide +kernel))
set_option maxRecDepth 100000 in
theorem lR3_25 : (.selects RX23 yX23_unary yX23_unary : Cond) ∈ lw_tbl := List.mem_append_left _ (List.mem_of_getElem? (i := 176) (by decide +kernel))
set_option maxRecDepth 100000 in
theorem lR3_26 : (.methodLink RX23 346 yX23_levelOf : Cond) ∈ lw_tbl := tb_11 _ (List.mem_of_getElem? (i := 107) (by decide +kernel))
set_option maxRecDepth 100000 in
theorem lR3_27 : (.static yX23_levelOf : Cond) ∈ lw_tbl := tb_11 _ (List.mem_of_getElem? (i := 108) (by decide +kernel))
set_option maxRecDepth 100000 in
theorem lR3_28 : (.instantiable RX15 14 : Cond) ∈ lw_tbl := tb_11 _ (List.mem_of_getElem? (i := 27) (by decide +kernel))
set_option maxRecDepth 100000 in
theorem lR3_29 : (.initialized RX15 : Cond) ∈ lw_tbl := tb_1 _ (List.mem_of_getElem? (i := 26) (by decide +kernel))
set_option maxRecDepth 100000 in
theorem lR3_30 : (.instanceMethod yX15_init : Cond) ∈ lw_tbl := tb_11 _ (List.mem_of_getElem? (i := 29) (by decide +kernel))
set_option maxRecDepth 100000 in
theorem lR3_31 : (.fieldLink RX23 350 "OwnedPlacesModel$Exp" "token" "I" : Cond) ∈ lw_tbl := tb_11 _ (List.mem_of_getElem? (i := 33) (by decide +kernel))
set_option maxRecDepth 100000 in
theorem lR3_32 : (.methodLink RX23 351 yX23_add : Cond) ∈ lw_tbl := tb_11 _ (List.mem_of_getElem? (i := 91) (by decide +kernel))
set_option maxRecDepth 100000 in
theorem lR3_33 : (.static yX23_add : Cond) ∈ lw_tbl := tb_11 _ (List.mem_of_getElem? (i := 92) (by decide +kernel))
set_option maxRecDepth 100000 in
theorem lR3_34 : (.code yX23_unary cX23_unary 3 (some (.object "OwnedPlacesModel$Exp")) : Cond) ∈ lw_tbl := tb_11 _ (List.mem_of_getElem? (i := 25) (by decide +kernel))
set_option maxRecDepth 100000 in
theorem lR3_35 : (.methodLink RX23 355 yX23_suffixed : Cond) ∈ lw_tbl := tb_11 _ (List.mem_of_getElem? (i := 75) (by decide +kernel))
set_option maxRecDepth 100000 in
theorem lR3_36 : (.instanceMethod yX23_suffixed : Cond) ∈ lw_tbl := tb_11 _ (List.mem_of_getElem? (i := 77) (by decide +kernel))
set_option maxRecDepth 100000 in
theorem lR3_37 : (.selects RX23 yX23_suffixed yX23_suffixed : Cond) ∈ lw_tbl := List.mem_append_left _ (List.mem_of_getElem? (i := 177) (by decide +kernel))
set_option maxRecDepth 100000 in
theorem lR3_38 : (.fieldLink RX23 358 "OwnedPlacesModel$Exp" "mut" "Z" : Cond) ∈ lw_tbl := tb_11 _ (List.mem_of_getElem? (i := 39) (by decide +kernel))
set_option maxRecDepth 100000 in
theorem lR3_39 : (.code yX23_suffixed cX23_suffixed 4 (some (.object "OwnedPlacesModel$Exp")) : Cond) ∈ lw_tbl := tb_11 _ (List.mem_of_getElem? (i := 78) (by decide +kernel))
set_option maxRecDepth 100000 in
theorem lR3_40 : (.methodLink RX23 359 yX23_primary : Cond) ∈ lw_tbl := tb_11 _ (List.mem_of_getElem? (i := 79) (by decide +kernel))
set_option maxRecDepth 100000 in
theorem lR3_41 : (.instanceMethod yX23_primary : Cond) ∈ lw_tbl := tb_11 _ (List.mem_of_getElem? (i := 81) (by decide +kernel))
set_option maxRecDepth 100000 in
theorem lR3_42 : (.selects RX23 yX23_primary yX23_primary : Cond) ∈ lw_tbl := List.mem_append_left _ (List.mem_of_getElem? (i := 178) (by decide +kernel))
set_option maxRecDepth 100000 in
theorem lR3_43 : (.fieldLink RX23 362 "OwnedPlacesModel$Exp" "name" "I" : Cond) ∈ lw_tbl := tb_11 _ (List.mem_of_getElem? (i := 35) (by decide +kernel))
set_option maxRecDepth 100000 in
theorem lR3_44 : (.code yX23_list cX23_list 3 none : Cond) ∈ lw_tbl := tb_11 _ (List.mem_of_getElem? (i := 102) (by decide +kernel))
set_option maxRecDepth 100000 in
theorem lR3_45 : (.code yX23_newFields cX23_newFields 4 none : Cond) ∈ lw_tbl := tb_11 _ (List.mem_of_getElem? (i := 90) (by decide +kernel))
set_option maxRecDepth 100000 in
theorem lR3_46 : (.code yX23_primary cX23_primary 2 (some (.object "OwnedPlacesModel$Exp")) : Cond) ∈ lw_tbl := tb_11 _ (List.mem_of_getElem? (i := 82) (by decide +kernel))
set_option maxRecDepth 100000 in
theorem lR3_47 : (.fieldLink RX23 37 "OwnedPlacesModel" "tokenNumber" "[J" : Cond) ∈ lw_tbl := tb_8 _ (List.mem_of_getElem? (i := 171) (by decide +kernel))
set_option maxRecDepth 100000 in
theorem lR3_48 : (.fieldLink RX23 363 "OwnedPlacesModel$Exp" "number" "J" : Cond) ∈ lw_tbl := tb_11 _ (List.mem_of_getElem? (i := 38) (by decide +kernel))
set_option maxRecDepth 100000 in
theorem lR3_49 : (.methodLink RX23 367 yX23_enterBracket : Cond) ∈ lw_tbl := tb_11 _ (List.mem_of_getElem? (i := 83) (by decide +kernel))
set_option maxRecDepth 100000 in
theorem lR3_50 : (.instanceMethod yX23_enterBracket : Cond) ∈ lw_tbl := tb_11 _ (List.mem_of_getElem? (i := 85) (by decide +kernel))
set_option maxRecDepth 100000 in
theorem lR3_51 : (.selects RX23 yX23_enterBracket yX23_enterBracket : Cond) ∈ lw_tbl := List.mem_append_left _ (List.mem_of_getElem? (i := 179) (by decide +kernel))
set_option maxRecDepth 100000 in
theorem lR3_52 : (.methodLink RX23 371 yX23_newFields : Cond) ∈ lw_tbl := tb_11 _ (List.mem_of_getElem? (i := 87) (by decide +kernel))
set_option maxRecDepth 100000 in
theorem lR3_53 : (.instanceMethod yX23_newFields : Cond) ∈ lw_tbl := tb_11 _ (List.mem_of_getElem? (i := 89) (by decide +kernel))
set_option maxRecDepth 100000 in
theorem lR3_54 : (.selects RX23 yX23_newFields yX23_newFields : Cond) ∈ lw_tbl := List.mem_append_left _ (List.mem_of_getElem? (i := 180) (by decide +kernel))
set_option maxRecDepth 100000 in
theorem lR3_55 : (.methodLink RX23 374 yX23_named : Cond) ∈ lw_tbl := tb_11 _ (List.mem_of_getElem? (i := 95) (by decide +kernel))
set_option maxRecDepth 100000 in
theorem lR3_56 : (.instanceMethod yX23_named : Cond) ∈ lw_tbl := tb_11 _ (List.mem_of_getElem? (i := 97) (by decide +kernel))
set_option maxRecDepth 100000 in
theorem lR3_57 : (.selects RX23 yX23_named yX23_named : Cond) ∈ lw_tbl := List.mem_append_left _ (List.mem_of_getElem? (i := 181) (by decide +kernel))
set_option maxRecDepth 100000 in
theorem lR3_58 : (.code yX23_enterBracket cX23_enterBracket 2 none : Cond) ∈ lw_tbl := tb_11 _ (List.mem_of_getElem? (i := 86) (by decide +kernel))
set_option maxRecDepth 100000 in
theorem lR3_59 : (.code yX23_named cX23_named 2 none : Cond) ∈ lw_tbl := tb_11 _ (List.mem_of_getElem? (i := 98) (by decide +kernel))
theorem lR3 : ∀ w ∈ wC3, w ∈ lw_tbl := List.forall_mem_cons.mpr ⟨lR3_0, List.forall_mem_cons.mpr ⟨lR3_1, List.forall_mem_cons.mpr ⟨lR3_2, List.forall_mem_cons.mpr ⟨lR3_3, List.forall_mem_cons.mpr ⟨lR3_4, List.forall_mem_cons.mpr ⟨lR3_5, List.forall_mem_cons.mpr ⟨lR3_6, List.forall_mem_cons.mpr ⟨lR3_7, List.forall_mem_cons.mpr ⟨lR3_8, List.forall_mem_cons.mpr ⟨lR3_9, List.forall_mem_cons.mpr ⟨lR3_10, List.forall_mem_cons.mpr ⟨lR3_11, List.forall_mem_cons.mpr ⟨lR3_12, List.forall_mem_cons.mpr ⟨lR3_13, List.forall_mem_cons.mpr ⟨lR3_14, List.forall_mem_cons.mpr ⟨lR3_15, List.forall_mem_cons.mpr ⟨lR3_16, List.forall_mem_cons.mpr ⟨lR3_17, List.forall_mem_cons.mpr ⟨lR3_18, List.forall_mem_cons.mpr ⟨lR3_19, List.forall_mem_cons.mpr ⟨lR3_20, List.forall_mem_cons.mpr ⟨lR3_21, List.forall_mem_cons.mpr ⟨lR3_22, List.forall_mem_cons.mpr ⟨lR3_23, List.forall_mem_cons.mpr ⟨lR3_24, List.forall_mem_cons.mpr ⟨lR3_25, List.forall_mem_cons.mpr ⟨lR3_26, List.forall_mem_cons.mpr ⟨lR3_27, List.forall_mem_cons.mpr ⟨lR3_28, List.forall_mem_cons.mpr ⟨lR3_29, List.forall_mem_cons.mpr ⟨lR3_30, List.forall_mem_cons.mpr ⟨lR3_31, List.forall_mem_cons.mpr ⟨lR3_32, List.forall_mem_cons.mpr ⟨lR3_33, List.forall_mem_cons.mpr ⟨lR3_34, List.forall_mem_cons.mpr ⟨lR3_35, List.forall_mem_cons.mpr ⟨lR3_36, List.forall_mem_cons.mpr ⟨lR3_37, List.forall_mem_cons.mpr ⟨lR3_38, List.forall_mem_cons.mpr ⟨lR3_39, List.forall_mem_cons.mpr ⟨lR3_40, List.forall_mem_cons.mpr ⟨lR3_41, List.forall_mem_cons.mpr ⟨lR3_42, List.forall_mem_cons.mpr ⟨lR3_43, List.forall_mem_cons.mpr ⟨lR3_44, List.forall_mem_cons.mpr ⟨lR3_45, List.forall_mem_cons.mpr ⟨lR3_46, List.forall_mem_cons.mpr ⟨lR3_47, List.forall_mem_cons.mpr ⟨lR3_48, List.forall_mem_cons.mpr ⟨lR3_49, List.forall_mem_cons.mpr ⟨lR3_50, List.forall_mem_cons.mpr ⟨lR3_51, List.forall_mem_cons.mpr ⟨lR3_52, List.forall_mem_cons.mpr ⟨lR3_53, List.forall_mem_cons.mpr ⟨lR3_54, List.forall_mem_cons.mpr ⟨lR3_55, List.forall_mem_cons.mpr ⟨lR3_56, List.forall_mem_cons.mpr ⟨lR3_57, List.forall_mem_cons.mpr ⟨lR3_58, List.forall_mem_cons.mpr ⟨lR3_59, fun _ h => absurd h List.not_mem_nil⟩⟩⟩⟩⟩⟩⟩⟩⟩⟩⟩⟩⟩⟩⟩⟩⟩⟩⟩⟩⟩⟩⟩⟩⟩⟩⟩⟩⟩⟩⟩⟩⟩⟩⟩⟩⟩⟩⟩⟩⟩⟩⟩⟩⟩⟩⟩⟩⟩⟩⟩⟩⟩⟩⟩⟩⟩⟩⟩⟩
set_option maxRecDepth 100000 in
theorem lR4_0 : (.methodLink RX23 377 yX23_list : Cond) ∈ lw_tbl := tb_11 _ (List.mem_of_getElem? (i := 99) (by decide +kernel))
set_option maxRecDepth 100000 in
theorem lR4_1 : (.instanceMethod yX23_list : Cond) ∈ lw_tbl := tb_11 _ (List.mem_of_getElem? (i := 101) (by decide +kernel))
set_option maxRecDepth 100000 in
theorem lR4_2 : (.selects RX23 yX23_list yX23_list : Cond) ∈ lw_tbl := List.mem_append_left _ (List.mem_of_getElem? (i := 182) (by decide +kernel))
set_option maxRecDepth 100000 in
theorem lR4_3 : (.fieldLink RX23 379 "OwnedPlacesModel$Exp" "sign" "I" : Cond) ∈ lw_tbl := tb_11 _ (List.mem_of_getElem? (i := 34) (by decide +kernel))
set_option maxRecDepth 100000 in
theorem lR4_4 : (.code yX23_type cX23_type 5 (some (.object "OwnedPlacesModel$Type")) : Cond) ∈ lw_tbl := tb_11 _ (List.mem_of_getElem? (i := 216) (by decide +kernel))
set_option maxRecDepth 100000 in
theorem lR4_5 : (.fieldLink RX23 382 "OwnedPlacesModel" "typeMany" "I" : Cond) ∈ lw_tbl := tb_8 _ (List.mem_of_getElem? (i := 182) (by decide +kernel))
set_option maxRecDepth 100000 in
theorem lR4_6 : (.fieldLink RX23 385 "OwnedPlacesModel" "types" "[LOwnedPlacesModel$Type;" : Cond) ∈ lw_tbl := tb_8 _ (List.mem_of_getElem? (i := 181) (by decide +kernel))
set_option maxRecDepth 100000 in
theorem lR4_7 : (.fieldLink RX23 386 "OwnedPlacesModel$Type" "kind" "I" : Cond) ∈ lw_tbl := tb_11 _ (List.mem_of_getElem? (i := 222) (by decide +kernel))
set_option maxRecDepth 100000 in
theorem lR4_8 : (.fieldLink RX23 387 "OwnedPlacesModel$Type" "index" "I" : Cond) ∈ lw_tbl := tb_11 _ (List.mem_of_getElem? (i := 223) (by decide +kernel))
set_option maxRecDepth 100000 in
theorem lR4_9 : (.fieldLink RX23 390 "OwnedPlacesModel$Type" "of" "LOwnedPlacesModel$Type;" : Cond) ∈ lw_tbl := tb_11 _ (List.mem_of_getElem? (i := 225) (by decide +kernel))
set_option maxRecDepth 100000 in
theorem lR4_10 : (.instantiable RX20 4 : Cond) ∈ lw_tbl := tb_11 _ (List.mem_of_getElem? (i := 217) (by decide +kernel))
set_option maxRecDepth 100000 in
theorem lR4_11 : (.initialized RX20 : Cond) ∈ lw_tbl := tb_1 _ (List.mem_of_getElem? (i := 29) (by decide +kernel))
set_option maxRecDepth 100000 in
theorem lR4_12 : (.instanceMethod yX20_init : Cond) ∈ lw_tbl := tb_11 _ (List.mem_of_getElem? (i := 219) (by decide +kernel))
set_option maxRecDepth 100000 in
theorem lR4_13 : (.fieldLink RX23 394 "OwnedPlacesModel$Type" "id" "I" : Cond) ∈ lw_tbl := tb_11 _ (List.mem_of_getElem? (i := 224) (by decide +kernel))
set_option maxRecDepth 100000 in
theorem lR4_14 : (.code yX23_plainType cX23_plainType 2 (some (.object "OwnedPlacesModel$Type")) : Cond) ∈ lw_tbl := tb_11 _ (List.mem_of_getElem? (i := 212) (by decide +kernel))
set_option maxRecDepth 100000 in
theorem lR4_15 : (.methodLink RX23 397 yX23_type : Cond) ∈ lw_tbl := tb_11 _ (List.mem_of_getElem? (i := 213) (by decide +kernel))
set_option maxRecDepth 100000 in
theorem lR4_16 : (.instanceMethod yX23_type : Cond) ∈ lw_tbl := tb_11 _ (List.mem_of_getElem? (i := 215) (by decide +kernel))
set_option maxRecDepth 100000 in
theorem lR4_17 : (.selects RX23 yX23_type yX23_type : Cond) ∈ lw_tbl := List.mem_append_left _ (List.mem_of_getElem? (i := 197) (by decide +kernel))
set_option maxRecDepth 100000 in
theorem lR4_18 : (.code yX23_refers cX23_refers 1 (some .boolean) : Cond) ∈ lw_tbl := tb_12 _ (List.mem_of_getElem? (i := 109) (by decide +kernel))
set_option maxRecDepth 100000 in
theorem lR4_19 : (.code yX23_copied cX23_copied 1 (some .boolean) : Cond) ∈ lw_tbl := tb_12 _ (List.mem_of_getElem? (i := 118) (by decide +kernel))
set_option maxRecDepth 100000 in
theorem lR4_20 : (.code yX23_itemNamed cX23_itemNamed 3 (some .int) : Cond) ∈ lw_tbl := tb_11 _ (List.mem_of_getElem? (i := 238) (by decide +kernel))
set_option maxRecDepth 100000 in
theorem lR4_21 : (.methodLink RX23 401 yX23_sameName : Cond) ∈ lw_tbl := tb_11 _ (List.mem_of_getElem? (i := 193) (by decide +kernel))
set_option maxRecDepth 100000 in
theorem lR4_22 : (.instanceMethod yX23_sameName : Cond) ∈ lw_tbl := tb_11 _ (List.mem_of_getElem? (i := 195) (by decide +kernel))
set_option maxRecDepth 100000 in
theorem lR4_23 : (.selects RX23 yX23_sameName yX23_sameName : Cond) ∈ lw_tbl := List.mem_append_left _ (List.mem_of_getElem? (i := 192) (by decide +kernel))
set_option maxRecDepth 100000 in
theorem lR4_24 : (.code yX23_resolve cX23_resolve 5 (some (.object "OwnedPlacesModel$Type")) : Cond) ∈ lw_tbl := tb_11 _ (List.mem_of_getElem? (i := 208) (by decide +kernel))
set_option maxRecDepth 100000 in
theorem lR4_25 : (.methodLink RX23 405 yX23_plainType : Cond) ∈ lw_tbl := tb_11 _ (List.mem_of_getElem? (i := 209) (by decide +kernel))
set_option maxRecDepth 100000 in
theorem lR4_26 : (.instanceMethod yX23_plainType : Cond) ∈ lw_tbl := tb_11 _ (List.mem_of_getElem? (i := 211) (by decide +kernel))
set_option maxRecDepth 100000 in
theorem lR4_27 : (.selects RX23 yX23_plainType yX23_plainType : Cond) ∈ lw_tbl := List.mem_append_left _ (List.mem_of_getElem? (i := 196) (by decide +kernel))
set_option maxRecDepth 100000 in
theorem lR4_28 : (.methodLink RX23 409 yX23_resolve : Cond) ∈ lw_tbl := tb_11 _ (List.mem_of_getElem? (i := 205) (by decide +kernel))
set_option maxRecDepth 100000 in
theorem lR4_29 : (.instanceMethod yX23_resolve : Cond) ∈ lw_tbl := tb_11 _ (List.mem_of_getElem? (i := 207) (by decide +kernel))
set_option maxRecDepth 100000 in
theorem lR4_30 : (.selects RX23 yX23_resolve yX23_resolve : Cond) ∈ lw_tbl := List.mem_append_left _ (List.mem_of_getElem? (i := 195) (by decide +kernel))
set_option maxRecDepth 100000 in
theorem lR4_31 : (.methodLink RX23 413 yX23_itemNamed : Cond) ∈ lw_tbl := tb_11 _ (List.mem_of_getElem? (i := 235) (by decide +kernel))
set_option maxRecDepth 100000 in
theorem lR4_32 : (.instanceMethod yX23_itemNamed : Cond) ∈ lw_tbl := tb_11 _ (List.mem_of_getElem? (i := 237) (by decide +kernel))
set_option maxRecDepth 100000 in
theorem lR4_33 : (.selects RX23 yX23_itemNamed yX23_itemNamed : Cond) ∈ lw_tbl := List.mem_append_left _ (List.mem_of_getElem? (i := 198) (by decide +kernel))
set_option maxRecDepth 100000 in
theorem lR4_34 : (.code yX23_noLife cX23_noLife 2 none : Cond) ∈ lw_tbl := tb_12 _ (List.mem_of_getElem? (i := 86) (by decide +kernel))
set_option maxRecDepth 100000 in
theorem lR4_35 : (.code yX23_lifeIn cX23_lifeIn 4 (some .int) : Cond) ∈ lw_tbl := tb_12 _ (List.mem_of_getElem? (i := 2) (by decide +kernel))
set_option maxRecDepth 100000 in
theorem lR4_36 : (.code yX23_lives cX23_lives 4 none : Cond) ∈ lw_tbl := tb_11 _ (List.mem_of_getElem? (i := 204) (by decide +kernel))
set_option maxRecDepth 100000 in
theorem lR4_37 : (.code yX23_itemNames cX23_itemNames 3 none : Cond) ∈ lw_tbl := tb_11 _ (List.mem_of_getElem? (i := 192) (by decide +kernel))
set_option maxRecDepth 100000 in
theorem lR4_38 : (.code yX23_itemTypes cX23_itemTypes 4 none : Cond) ∈ lw_tbl := tb_11 _ (List.mem_of_getElem? (i := 200) (by decide +kernel))
set_option maxRecDepth 100000 in
theorem lR4_39 : (.methodLink RX23 416 yX23_lives : Cond) ∈ lw_tbl := tb_11 _ (List.mem_of_getElem? (i := 201) (by decide +kernel))
set_option maxRecDepth 100000 in
theorem lR4_40 : (.instanceMethod yX23_lives : Cond) ∈ lw_tbl := tb_11 _ (List.mem_of_getElem? (i := 203) (by decide +kernel))
set_option maxRecDepth 100000 in
theorem lR4_41 : (.selects RX23 yX23_lives yX23_lives : Cond) ∈ lw_tbl := List.mem_append_left _ (List.mem_of_getElem? (i := 194) (by decide +kernel))
set_option maxRecDepth 100000 in
theorem lR4_42 : (.methodLink RX23 418 yX23_lifeIn : Cond) ∈ lw_tbl := tb_11 _ (List.mem_of_getElem? (i := 239) (by decide +kernel))
set_option maxRecDepth 100000 in
theorem lR4_43 : (.instanceMethod yX23_lifeIn : Cond) ∈ lw_tbl := tb_12 _ (List.mem_of_getElem? (i := 1) (by decide +kernel))
set_option maxRecDepth 100000 in
theorem lR4_44 : (.selects RX23 yX23_lifeIn yX23_lifeIn : Cond) ∈ lw_tbl := List.mem_append_left _ (List.mem_of_getElem? (i := 199) (by decide +kernel))
set_option maxRecDepth 100000 in
theorem lR4_45 : (.fieldLink RX23 422 "OwnedPlacesModel$Item" "gives" "LOwnedPlacesModel$Type;" : Cond) ∈ lw_tbl := tb_10 _ (List.mem_of_getElem? (i := 55) (by decide +kernel))
set_option maxRecDepth 100000 in
theorem lR4_46 : (.fieldLink RX23 425 "OwnedPlacesModel$Item" "resultLife" "I" : Cond) ∈ lw_tbl := tb_10 _ (List.mem_of_getElem? (i := 46) (by decide +kernel))
set_option maxRecDepth 100000 in
theorem lR4_47 : (.code yX23_lies cX23_lies 6 (some .boolean) : Cond) ∈ lw_tbl := tb_12 _ (List.mem_of_getElem? (i := 14) (by decide +kernel))
set_option maxRecDepth 100000 in
theorem lR4_48 : (.methodLink RX23 428 yX23_isItem : Cond) ∈ lw_tbl := tb_12 _ (List.mem_of_getElem? (i := 15) (by decide +kernel))
set_option maxRecDepth 100000 in
theorem lR4_49 : (.static yX23_isItem : Cond) ∈ lw_tbl := tb_12 _ (List.mem_of_getElem? (i := 16) (by decide +kernel))
set_option maxRecDepth 100000 in
theorem lR4_50 : (.code yX23_isItem cX23_isItem 2 (some .boolean) : Cond) ∈ lw_tbl := tb_12 _ (List.mem_of_getElem? (i := 17) (by decide +kernel))
set_option maxRecDepth 100000 in
theorem lR4_51 : (.code yX23_endless cX23_endless 4 none : Cond) ∈ lw_tbl := tb_12 _ (List.mem_of_getElem? (i := 10) (by decide +kernel))
set_option maxRecDepth 100000 in
theorem lR4_52 : (.fieldLink RX23 432 "OwnedPlacesModel" "holds" "[Z" : Cond) ∈ lw_tbl := tb_8 _ (List.mem_of_getElem? (i := 183) (by decide +kernel))
set_option maxRecDepth 100000 in
theorem lR4_53 : (.methodLink RX23 436 yX23_lies : Cond) ∈ lw_tbl := tb_12 _ (List.mem_of_getElem? (i := 11) (by decide +kernel))
set_option maxRecDepth 100000 in
theorem lR4_54 : (.instanceMethod yX23_lies : Cond) ∈ lw_tbl := tb_12 _ (List.mem_of_getElem? (i := 13) (by decide +kernel))
set_option maxRecDepth 100000 in
theorem lR4_55 : (.selects RX23 yX23_lies yX23_lies : Cond) ∈ lw_tbl := List.mem_append_left _ (List.mem_of_getElem? (i := 202) (by decide +kernel))
set_option maxRecDepth 100000 in
theorem lR4_56 : (.fieldLink RX23 439 "OwnedPlacesModel$Item" "endless" "Z" : Cond) ∈ lw_tbl := tb_10 _ (List.mem_of_getElem? (i := 61) (by decide +kernel))
set_option maxRecDepth 100000 in
theorem lR4_57 : (.fieldLink RX23 442 "OwnedPlacesModel$Item" "size" "I" : Cond) ∈ lw_tbl := tb_10 _ (List.mem_of_getElem? (i := 59) (by decide +kernel))
set_option maxRecDepth 100000 in
theorem lR4_58 : (.code yX23_sizeOf cX23_sizeOf 2 (some .int) : Cond) ∈ lw_tbl := tb_12 _ (List.mem_of_getElem? (i := 25) (by decide +kernel))
set_option maxRecDepth 100000 in
theorem lR4_59 : (.methodLink RX23 443 yX23_sizeOfItem : Cond) ∈ lw_tbl := tb_12 _ (List.mem_of_getElem? (i := 18) (by decide +kernel))
theorem lR4 : ∀ w ∈ wC4, w ∈ lw_tbl := List.forall_mem_cons.mpr ⟨lR4_0, List.forall_mem_cons.mpr ⟨lR4_1, List.forall_mem_cons.mpr ⟨lR4_2, List.forall_mem_cons.mpr ⟨lR4_3, List.forall_mem_cons.mpr ⟨lR4_4, List.forall_mem_cons.mpr ⟨lR4_5, List.forall_mem_cons.mpr ⟨lR4_6, List.forall_mem_cons.mpr ⟨lR4_7, List.forall_mem_cons.mpr ⟨lR4_8, List.forall_mem_cons.mpr ⟨lR4_9, List.forall_mem_cons.mpr ⟨lR4_10, List.forall_mem_cons.mpr ⟨lR4_11, List.forall_mem_cons.mpr ⟨lR4_12, List.forall_mem_cons.mpr ⟨lR4_13, List.forall_mem_cons.mpr ⟨lR4_14, List.forall_mem_cons.mpr ⟨lR4_15, List.forall_mem_cons.mpr ⟨lR4_16, List.forall_mem_cons.mpr ⟨lR4_17, List.forall_mem_cons.mpr ⟨lR4_18, List.forall_mem_cons.mpr ⟨lR4_19, List.forall_mem_cons.mpr ⟨lR4_20, List.forall_mem_cons.mpr ⟨lR4_21, List.forall_mem_cons.mpr ⟨lR4_22, List.forall_mem_cons.mpr ⟨lR4_23, List.forall_mem_cons.mpr ⟨lR4_24, List.forall_mem_cons.mpr ⟨lR4_25, List.forall_mem_cons.mpr ⟨lR4_26, List.forall_mem_cons.mpr ⟨lR4_27, List.forall_mem_cons.mpr ⟨lR4_28, List.forall_mem_cons.mpr ⟨lR4_29, List.forall_mem_cons.mpr ⟨lR4_30, List.forall_mem_cons.mpr ⟨lR4_31, List.forall_mem_cons.mpr ⟨lR4_32, List.forall_mem_cons.mpr ⟨lR4_33, List.forall_mem_cons.mpr ⟨lR4_34, List.forall_mem_cons.mpr ⟨lR4_35, List.forall_mem_cons.mpr ⟨lR4_36, List.forall_mem_cons.mpr ⟨lR4_37, List.forall_mem_cons.mpr ⟨lR4_38, List.forall_mem_cons.mpr ⟨lR4_39, List.forall_mem_cons.mpr ⟨lR4_40, List.forall_mem_cons.mpr ⟨lR4_41, List.forall_mem_cons.mpr ⟨lR4_42, List.forall_mem_cons.mpr ⟨lR4_43, List.forall_mem_cons.mpr ⟨lR4_44, List.forall_mem_cons.mpr ⟨lR4_45, List.forall_mem_cons.mpr ⟨lR4_46, List.forall_mem_cons.mpr ⟨lR4_47, List.forall_mem_cons.mpr ⟨lR4_48, List.forall_mem_cons.mpr ⟨lR4_49, List.forall_mem_cons.mpr ⟨lR4_50, List.forall_mem_cons.mpr ⟨lR4_51, List.forall_mem_cons.mpr ⟨lR4_52, List.forall_mem_cons.mpr ⟨lR4_53, List.forall_mem_cons.mpr ⟨lR4_54, List.forall_mem_cons.mpr ⟨lR4_55, List.forall_mem_cons.mpr ⟨lR4_56, List.forall_mem_cons.mpr ⟨lR4_57, List.forall_mem_cons.mpr ⟨lR4_58, List.forall_mem_cons.mpr ⟨lR4_59, fun _ h => absurd h List.not_mem_nil⟩⟩⟩⟩⟩⟩⟩⟩⟩⟩⟩⟩⟩⟩⟩⟩⟩⟩⟩⟩⟩⟩⟩⟩⟩⟩⟩⟩⟩⟩⟩⟩⟩⟩⟩⟩⟩⟩⟩⟩⟩⟩⟩⟩⟩⟩⟩⟩⟩⟩⟩⟩⟩⟩⟩⟩⟩⟩⟩⟩
set_option maxRecDepth 100000 in
theorem lR5_0 : (.instanceMethod yX23_sizeOfItem : Cond) ∈ lw_tbl := tb_12 _ (List.mem_of_getElem? (i := 20) (by decide +kernel))
set_option maxRecDepth 100000 in
theorem lR5_1 : (.selects RX23 yX23_sizeOfItem yX23_sizeOfItem : Cond) ∈ lw_tbl := List.mem_append_left _ (List.mem_of_getElem? (i := 203) (by decide +kernel))
set_option maxRecDepth 100000 in
theorem lR5_2 : (.code yX23_sizeOfItem cX23_sizeOfItem 6 (some .int) : Cond) ∈ lw_tbl := tb_12 _ (List.mem_of_getElem? (i := 21) (by decide +kernel))
set_option maxRecDepth 100000 in
theorem lR5_3 : (.methodLink RX23 447 yX23_sizeOf : Cond) ∈ lw_tbl := tb_12 _ (List.mem_of_getElem? (i := 22) (by decide +kernel))
set_option maxRecDepth 100000 in
theorem lR5_4 : (.instanceMethod yX23_sizeOf : Cond) ∈ lw_tbl := tb_12 _ (List.mem_of_getElem? (i := 24) (by decide +kernel))
set_option maxRecDepth 100000 in
theorem lR5_5 : (.selects RX23 yX23_sizeOf yX23_sizeOf : Cond) ∈ lw_tbl := List.mem_append_left _ (List.mem_of_getElem? (i := 204) (by decide +kernel))
set_option maxRecDepth 100000 in
theorem lR5_6 : (.code yX23_sizes cX23_sizes 2 none : Cond) ∈ lw_tbl := tb_12 _ (List.mem_of_getElem? (i := 6) (by decide +kernel))
set_option maxRecDepth 100000 in
theorem lR5_7 : (.methodLink RX23 451 yX23_endless : Cond) ∈ lw_tbl := tb_12 _ (List.mem_of_getElem? (i := 7) (by decide +kernel))
set_option maxRecDepth 100000 in
theorem lR5_8 : (.instanceMethod yX23_endless : Cond) ∈ lw_tbl := tb_12 _ (List.mem_of_getElem? (i := 9) (by decide +kernel))
set_option maxRecDepth 100000 in
theorem lR5_9 : (.selects RX23 yX23_endless yX23_endless : Cond) ∈ lw_tbl := List.mem_append_left _ (List.mem_of_getElem? (i := 201) (by decide +kernel))
set_option maxRecDepth 100000 in
theorem lR5_10 : (.code yX23_leavesOfItem cX23_leavesOfItem 3 (some .int) : Cond) ∈ lw_tbl := tb_12 _ (List.mem_of_getElem? (i := 33) (by decide +kernel))
set_option maxRecDepth 100000 in
theorem lR5_11 : (.fieldLink RX23 453 "OwnedPlacesModel$Item" "leaves" "I" : Cond) ∈ lw_tbl := tb_10 _ (List.mem_of_getElem? (i := 60) (by decide +kernel))
set_option maxRecDepth 100000 in
theorem lR5_12 : (.methodLink RX23 456 yX23_leavesOfItem : Cond) ∈ lw_tbl := tb_12 _ (List.mem_of_getElem? (i := 30) (by decide +kernel))
set_option maxRecDepth 100000 in
theorem lR5_13 : (.instanceMethod yX23_leavesOfItem : Cond) ∈ lw_tbl := tb_12 _ (List.mem_of_getElem? (i := 32) (by decide +kernel))
set_option maxRecDepth 100000 in
theorem lR5_14 : (.selects RX23 yX23_leavesOfItem yX23_leavesOfItem : Cond) ∈ lw_tbl := List.mem_append_left _ (List.mem_of_getElem? (i := 206) (by decide +kernel))
set_option maxRecDepth 100000 in
theorem lR5_15 : (.code yX23_leaves cX23_leaves 2 none : Cond) ∈ lw_tbl := tb_12 _ (List.mem_of_getElem? (i := 29) (by decide +kernel))
set_option maxRecDepth 100000 in
theorem lR5_16 : (.code yX23_findMain cX23_findMain 2 none : Cond) ∈ lw_tbl := tb_12 _ (List.mem_of_getElem? (i := 37) (by decide +kernel))
set_option maxRecDepth 100000 in
theorem lR5_17 : (.fieldLink RX23 459 "OwnedPlacesModel" "main" "I" : Cond) ∈ lw_tbl := tb_8 _ (List.mem_of_getElem? (i := 184) (by decide +kernel))
set_option maxRecDepth 100000 in
theorem lR5_18 : (.methodLink RX23 462 yX23_isMain : Cond) ∈ lw_tbl := tb_12 _ (List.mem_of_getElem? (i := 38) (by decide +kernel))
set_option maxRecDepth 100000 in
theorem lR5_19 : (.instanceMethod yX23_isMain : Cond) ∈ lw_tbl := tb_12 _ (List.mem_of_getElem? (i := 40) (by decide +kernel))
set_option maxRecDepth 100000 in
theorem lR5_20 : (.selects RX23 yX23_isMain yX23_isMain : Cond) ∈ lw_tbl := List.mem_append_left _ (List.mem_of_getElem? (i := 208) (by decide +kernel))
set_option maxRecDepth 100000 in
theorem lR5_21 : (.fieldLink RX23 28 "OwnedPlacesModel" "tokens" "I" : Cond) ∈ lw_tbl := tb_8 _ (List.mem_of_getElem? (i := 172) (by decide +kernel))
set_option maxRecDepth 100000 in
theorem lR5_22 : (.code yX23_declare cX23_declare 5 (some (.object "OwnedPlacesModel$Variable")) : Cond) ∈ lw_tbl := tb_12 _ (List.mem_of_getElem? (i := 49) (by decide +kernel))
set_option maxRecDepth 100000 in
theorem lR5_23 : (.instantiable RX21 5 : Cond) ∈ lw_tbl := tb_12 _ (List.mem_of_getElem? (i := 50) (by decide +kernel))
set_option maxRecDepth 100000 in
theorem lR5_24 : (.initialized RX21 : Cond) ∈ lw_tbl := tb_1 _ (List.mem_of_getElem? (i := 30) (by decide +kernel))
set_option maxRecDepth 100000 in
theorem lR5_25 : (.instanceMethod yX21_init : Cond) ∈ lw_tbl := tb_12 _ (List.mem_of_getElem? (i := 52) (by decide +kernel))
set_option maxRecDepth 100000 in
theorem lR5_26 : (.fieldLink RX23 466 "OwnedPlacesModel" "variableMany" "I" : Cond) ∈ lw_tbl := tb_8 _ (List.mem_of_getElem? (i := 187) (by decide +kernel))
set_option maxRecDepth 100000 in
theorem lR5_27 : (.fieldLink RX23 469 "OwnedPlacesModel$Variable" "index" "I" : Cond) ∈ lw_tbl := tb_12 _ (List.mem_of_getElem? (i := 55) (by decide +kernel))
set_option maxRecDepth 100000 in
theorem lR5_28 : (.fieldLink RX23 470 "OwnedPlacesModel$Variable" "name" "I" : Cond) ∈ lw_tbl := tb_12 _ (List.mem_of_getElem? (i := 56) (by decide +kernel))
set_option maxRecDepth 100000 in
theorem lR5_29 : (.fieldLink RX23 471 "OwnedPlacesModel$Variable" "type" "LOwnedPlacesModel$Type;" : Cond) ∈ lw_tbl := tb_12 _ (List.mem_of_getElem? (i := 57) (by decide +kernel))
set_option maxRecDepth 100000 in
theorem lR5_30 : (.fieldLink RX23 473 "OwnedPlacesModel$Variable" "mut" "Z" : Cond) ∈ lw_tbl := tb_12 _ (List.mem_of_getElem? (i := 58) (by decide +kernel))
set_option maxRecDepth 100000 in
theorem lR5_31 : (.fieldLink RX23 474 "OwnedPlacesModel" "scope" "[LOwnedPlacesModel$Variable;" : Cond) ∈ lw_tbl := tb_8 _ (List.mem_of_getElem? (i := 185) (by decide +kernel))
set_option maxRecDepth 100000 in
theorem lR5_32 : (.fieldLink RX23 477 "OwnedPlacesModel" "scopeMany" "I" : Cond) ∈ lw_tbl := tb_8 _ (List.mem_of_getElem? (i := 186) (by decide +kernel))
set_option maxRecDepth 100000 in
theorem lR5_33 : (.code yX23_bare cX23_bare 2 (some (.object "OwnedPlacesModel$Exp")) : Cond) ∈ lw_tbl := tb_12 _ (List.mem_of_getElem? (i := 115) (by decide +kernel))
set_option maxRecDepth 100000 in
theorem lR5_34 : (.code yX23_depth cX23_depth 3 (some .int) : Cond) ∈ lw_tbl := tb_12 _ (List.mem_of_getElem? (i := 112) (by decide +kernel))
set_option maxRecDepth 100000 in
theorem lR5_35 : (.methodLink RX23 480 yX23_bare : Cond) ∈ lw_tbl := tb_12 _ (List.mem_of_getElem? (i := 113) (by decide +kernel))
set_option maxRecDepth 100000 in
theorem lR5_36 : (.static yX23_bare : Cond) ∈ lw_tbl := tb_12 _ (List.mem_of_getElem? (i := 114) (by decide +kernel))
set_option maxRecDepth 100000 in
theorem lR5_37 : (.code yX23_told cX23_told 3 (some (.object "OwnedPlacesModel$Type")) : Cond) ∈ lw_tbl := tb_12 _ (List.mem_of_getElem? (i := 94) (by decide +kernel))
set_option maxRecDepth 100000 in
theorem lR5_38 : (.fieldLink RX23 484 "OwnedPlacesModel$Exp" "type" "LOwnedPlacesModel$Type;" : Cond) ∈ lw_tbl := tb_11 _ (List.mem_of_getElem? (i := 44) (by decide +kernel))
set_option maxRecDepth 100000 in
theorem lR5_39 : (.code yX23_wrong cX23_wrong 4 (some (.object "OwnedPlacesModel$Type")) : Cond) ∈ lw_tbl := tb_12 _ (List.mem_of_getElem? (i := 102) (by decide +kernel))
set_option maxRecDepth 100000 in
theorem lR5_40 : (.methodLink RX23 485 yX23_told : Cond) ∈ lw_tbl := tb_12 _ (List.mem_of_getElem? (i := 91) (by decide +kernel))
set_option maxRecDepth 100000 in
theorem lR5_41 : (.instanceMethod yX23_told : Cond) ∈ lw_tbl := tb_12 _ (List.mem_of_getElem? (i := 93) (by decide +kernel))
set_option maxRecDepth 100000 in
theorem lR5_42 : (.selects RX23 yX23_told yX23_told : Cond) ∈ lw_tbl := List.mem_append_left _ (List.mem_of_getElem? (i := 216) (by decide +kernel))
set_option maxRecDepth 100000 in
theorem lR5_43 : (.code yX23_place cX23_place 5 (some (.object "OwnedPlacesModel$Type")) : Cond) ∈ lw_tbl := tb_12 _ (List.mem_of_getElem? (i := 98) (by decide +kernel))
set_option maxRecDepth 100000 in
theorem lR5_44 : (.methodLink RX23 489 yX23_place : Cond) ∈ lw_tbl := tb_12 _ (List.mem_of_getElem? (i := 95) (by decide +kernel))
set_option maxRecDepth 100000 in
theorem lR5_45 : (.instanceMethod yX23_place : Cond) ∈ lw_tbl := tb_12 _ (List.mem_of_getElem? (i := 97) (by decide +kernel))
set_option maxRecDepth 100000 in
theorem lR5_46 : (.selects RX23 yX23_place yX23_place : Cond) ∈ lw_tbl := List.mem_append_left _ (List.mem_of_getElem? (i := 217) (by decide +kernel))
set_option maxRecDepth 100000 in
theorem lR5_47 : (.fieldLink RX23 492 "OwnedPlacesModel$Exp" "variable" "LOwnedPlacesModel$Variable;" : Cond) ∈ lw_tbl := tb_11 _ (List.mem_of_getElem? (i := 45) (by decide +kernel))
set_option maxRecDepth 100000 in
theorem lR5_48 : (.methodLink RX23 496 yX23_wrong : Cond) ∈ lw_tbl := tb_12 _ (List.mem_of_getElem? (i := 99) (by decide +kernel))
set_option maxRecDepth 100000 in
theorem lR5_49 : (.instanceMethod yX23_wrong : Cond) ∈ lw_tbl := tb_12 _ (List.mem_of_getElem? (i := 101) (by decide +kernel))
set_option maxRecDepth 100000 in
theorem lR5_50 : (.selects RX23 yX23_wrong yX23_wrong : Cond) ∈ lw_tbl := List.mem_append_left _ (List.mem_of_getElem? (i := 218) (by decide +kernel))
set_option maxRecDepth 100000 in
theorem lR5_51 : (.methodLink RX23 500 yX23_member : Cond) ∈ lw_tbl := tb_12 _ (List.mem_of_getElem? (i := 103) (by decide +kernel))
set_option maxRecDepth 100000 in
theorem lR5_52 : (.instanceMethod yX23_member : Cond) ∈ lw_tbl := tb_12 _ (List.mem_of_getElem? (i := 105) (by decide +kernel))
set_option maxRecDepth 100000 in
theorem lR5_53 : (.selects RX23 yX23_member yX23_member : Cond) ∈ lw_tbl := List.mem_append_left _ (List.mem_of_getElem? (i := 219) (by decide +kernel))
set_option maxRecDepth 100000 in
theorem lR5_54 : (.methodLink RX23 503 yX23_refers : Cond) ∈ lw_tbl := tb_12 _ (List.mem_of_getElem? (i := 107) (by decide +kernel))
set_option maxRecDepth 100000 in
theorem lR5_55 : (.static yX23_refers : Cond) ∈ lw_tbl := tb_12 _ (List.mem_of_getElem? (i := 108) (by decide +kernel))
set_option maxRecDepth 100000 in
theorem lR5_56 : (.methodLink RX23 506 yX23_depth : Cond) ∈ lw_tbl := tb_12 _ (List.mem_of_getElem? (i := 110) (by decide +kernel))
set_option maxRecDepth 100000 in
theorem lR5_57 : (.static yX23_depth : Cond) ∈ lw_tbl := tb_12 _ (List.mem_of_getElem? (i := 111) (by decide +kernel))
set_option maxRecDepth 100000 in
theorem lR5_58 : (.code yX23_member cX23_member 5 (some (.object "OwnedPlacesModel$Type")) : Cond) ∈ lw_tbl := tb_12 _ (List.mem_of_getElem? (i := 106) (by decide +kernel))
set_option maxRecDepth 100000 in
theorem lR5_59 : (.fieldLink RX23 510 "OwnedPlacesModel$Exp" "index" "I" : Cond) ∈ lw_tbl := tb_11 _ (List.mem_of_getElem? (i := 36) (by decide +kernel))
theorem lR5 : ∀ w ∈ wC5, w ∈ lw_tbl := List.forall_mem_cons.mpr ⟨lR5_0, List.forall_mem_cons.mpr ⟨lR5_1, List.forall_mem_cons.mpr ⟨lR5_2, List.forall_mem_cons.mpr ⟨lR5_3, List.forall_mem_cons.mpr ⟨lR5_4, List.forall_mem_cons.mpr ⟨lR5_5, List.forall_mem_cons.mpr ⟨lR5_6, List.forall_mem_cons.mpr ⟨lR5_7, List.forall_mem_cons.mpr ⟨lR5_8, List.forall_mem_cons.mpr ⟨lR5_9, List.forall_mem_cons.mpr ⟨lR5_10, List.forall_mem_cons.mpr ⟨lR5_11, List.forall_mem_cons.mpr ⟨lR5_12, List.forall_mem_cons.mpr ⟨lR5_13, List.forall_mem_cons.mpr ⟨lR5_14, List.forall_mem_cons.mpr ⟨lR5_15, List.forall_mem_cons.mpr ⟨lR5_16, List.forall_mem_cons.mpr ⟨lR5_17, List.forall_mem_cons.mpr ⟨lR5_18, List.forall_mem_cons.mpr ⟨lR5_19, List.forall_mem_cons.mpr ⟨lR5_20, List.forall_mem_cons.mpr ⟨lR5_21, List.forall_mem_cons.mpr ⟨lR5_22, List.forall_mem_cons.mpr ⟨lR5_23, List.forall_mem_cons.mpr ⟨lR5_24, List.forall_mem_cons.mpr ⟨lR5_25, List.forall_mem_cons.mpr ⟨lR5_26, List.forall_mem_cons.mpr ⟨lR5_27, List.forall_mem_cons.mpr ⟨lR5_28, List.forall_mem_cons.mpr ⟨lR5_29, List.forall_mem_cons.mpr ⟨lR5_30, List.forall_mem_cons.mpr ⟨lR5_31, List.forall_mem_cons.mpr ⟨lR5_32, List.forall_mem_cons.mpr ⟨lR5_33, List.forall_mem_cons.mpr ⟨lR5_34, List.forall_mem_cons.mpr ⟨lR5_35, List.forall_mem_cons.mpr ⟨lR5_36, List.forall_mem_cons.mpr ⟨lR5_37, List.forall_mem_cons.mpr ⟨lR5_38, List.forall_mem_cons.mpr ⟨lR5_39, List.forall_mem_cons.mpr ⟨lR5_40, List.forall_mem_cons.mpr ⟨lR5_41, List.forall_mem_cons.mpr ⟨lR5_42, List.forall_mem_cons.mpr ⟨lR5_43, List.forall_mem_cons.mpr ⟨lR5_44, List.forall_mem_cons.mpr ⟨lR5_45, List.forall_mem_cons.mpr ⟨lR5_46, List.forall_mem_cons.mpr ⟨lR5_47, List.forall_mem_cons.mpr ⟨lR5_48, List.forall_mem_cons.mpr ⟨lR5_49, List.forall_mem_cons.mpr ⟨lR5_50, List.forall_mem_cons.mpr ⟨lR5_51, List.forall_mem_cons.mpr ⟨lR5_52, List.forall_mem_cons.mpr ⟨lR5_53, List.forall_mem_cons.mpr ⟨lR5_54, List.forall_mem_cons.mpr ⟨lR5_55, List.forall_mem_cons.mpr ⟨lR5_56, List.forall_mem_cons.mpr ⟨lR5_57, List.forall_mem_cons.mpr ⟨lR5_58, List.forall_mem_cons.mpr ⟨lR5_59, fun _ h => absurd h List.not_mem_nil⟩⟩⟩⟩⟩⟩⟩⟩⟩⟩⟩⟩⟩⟩⟩⟩⟩⟩⟩⟩⟩⟩⟩⟩⟩⟩⟩⟩⟩⟩⟩⟩⟩⟩⟩⟩⟩⟩⟩⟩⟩⟩⟩⟩⟩⟩⟩⟩⟩⟩⟩⟩⟩⟩⟩⟩⟩⟩⟩⟩
set_option maxRecDepth 100000 in
theorem lR6_0 : (.code yX23_isPart cX23_isPart 2 (some .boolean) : Cond) ∈ lw_tbl := tb_12 _ (List.mem_of_getElem? (i := 124) (by decide +kernel))
set_option maxRecDepth 100000 in
theorem lR6_1 : (.code yX23_movable cX23_movable 2 (some .boolean) : Cond) ∈ lw_tbl := tb_12 _ (List.mem_of_getElem? (i := 121) (by decide +kernel))
set_option maxRecDepth 100000 in
theorem lR6_2 : (.methodLink RX23 511 yX23_isPart : Cond) ∈ lw_tbl := tb_12 _ (List.mem_of_getElem? (i := 122) (by decide +kernel))
set_option maxRecDepth 100000 in
theorem lR6_3 : (.static yX23_isPart : Cond) ∈ lw_tbl := tb_12 _ (List.mem_of_getElem? (i := 123) (by decide +kernel))
set_option maxRecDepth 100000 in
theorem lR6_4 : (.code yX23_mutable cX23_mutable 4 (some .boolean) : Cond) ∈ lw_tbl := tb_12 _ (List.mem_of_getElem? (i := 132) (by decide +kernel))
set_option maxRecDepth 100000 in
theorem lR6_5 : (.methodLink RX23 514 yX23_mutable : Cond) ∈ lw_tbl := tb_12 _ (List.mem_of_getElem? (i := 129) (by decide +kernel))
set_option maxRecDepth 100000 in
theorem lR6_6 : (.instanceMethod yX23_mutable : Cond) ∈ lw_tbl := tb_12 _ (List.mem_of_getElem? (i := 131) (by decide +kernel))
set_option maxRecDepth 100000 in
theorem lR6_7 : (.selects RX23 yX23_mutable yX23_mutable : Cond) ∈ lw_tbl := List.mem_append_left _ (List.mem_of_getElem? (i := 221) (by decide +kernel))
set_option maxRecDepth 100000 in
theorem lR6_8 : (.code yX23_value cX23_value 3 (some (.object "OwnedPlacesModel$Type")) : Cond) ∈ lw_tbl := tb_12 _ (List.mem_of_getElem? (i := 90) (by decide +kernel))
set_option maxRecDepth 100000 in
theorem lR6_9 : (.methodLink RX23 517 yX23_copied : Cond) ∈ lw_tbl := tb_12 _ (List.mem_of_getElem? (i := 116) (by decide +kernel))
set_option maxRecDepth 100000 in
theorem lR6_10 : (.static yX23_copied : Cond) ∈ lw_tbl := tb_12 _ (List.mem_of_getElem? (i := 117) (by decide +kernel))
set_option maxRecDepth 100000 in
theorem lR6_11 : (.methodLink RX23 520 yX23_movable : Cond) ∈ lw_tbl := tb_12 _ (List.mem_of_getElem? (i := 119) (by decide +kernel))
set_option maxRecDepth 100000 in
theorem lR6_12 : (.static yX23_movable : Cond) ∈ lw_tbl := tb_12 _ (List.mem_of_getElem? (i := 120) (by decide +kernel))
set_option maxRecDepth 100000 in
theorem lR6_13 : (.methodLink RX23 523 yX23_value : Cond) ∈ lw_tbl := tb_12 _ (List.mem_of_getElem? (i := 87) (by decide +kernel))
set_option maxRecDepth 100000 in
theorem lR6_14 : (.instanceMethod yX23_value : Cond) ∈ lw_tbl := tb_12 _ (List.mem_of_getElem? (i := 89) (by decide +kernel))
set_option maxRecDepth 100000 in
theorem lR6_15 : (.selects RX23 yX23_value yX23_value : Cond) ∈ lw_tbl := List.mem_append_left _ (List.mem_of_getElem? (i := 215) (by decide +kernel))
set_option maxRecDepth 100000 in
theorem lR6_16 : (.methodLink RX23 526 yX23_refer : Cond) ∈ lw_tbl := tb_12 _ (List.mem_of_getElem? (i := 125) (by decide +kernel))
set_option maxRecDepth 100000 in
theorem lR6_17 : (.instanceMethod yX23_refer : Cond) ∈ lw_tbl := tb_12 _ (List.mem_of_getElem? (i := 127) (by decide +kernel))
set_option maxRecDepth 100000 in
theorem lR6_18 : (.selects RX23 yX23_refer yX23_refer : Cond) ∈ lw_tbl := List.mem_append_left _ (List.mem_of_getElem? (i := 220) (by decide +kernel))
set_option maxRecDepth 100000 in
theorem lR6_19 : (.methodLink RX23 529 yX23_operand : Cond) ∈ lw_tbl := tb_12 _ (List.mem_of_getElem? (i := 133) (by decide +kernel))
set_option maxRecDepth 100000 in
theorem lR6_20 : (.instanceMethod yX23_operand : Cond) ∈ lw_tbl := tb_12 _ (List.mem_of_getElem? (i := 135) (by decide +kernel))
set_option maxRecDepth 100000 in
theorem lR6_21 : (.selects RX23 yX23_operand yX23_operand : Cond) ∈ lw_tbl := List.mem_append_left _ (List.mem_of_getElem? (i := 222) (by decide +kernel))
set_option maxRecDepth 100000 in
theorem lR6_22 : (.methodLink RX23 532 yX23_box : Cond) ∈ lw_tbl := tb_12 _ (List.mem_of_getElem? (i := 137) (by decide +kernel))
set_option maxRecDepth 100000 in
theorem lR6_23 : (.instanceMethod yX23_box : Cond) ∈ lw_tbl := tb_12 _ (List.mem_of_getElem? (i := 139) (by decide +kernel))
set_option maxRecDepth 100000 in
theorem lR6_24 : (.selects RX23 yX23_box yX23_box : Cond) ∈ lw_tbl := List.mem_append_left _ (List.mem_of_getElem? (i := 223) (by decide +kernel))
set_option maxRecDepth 100000 in
theorem lR6_25 : (.methodLink RX23 535 yX23_chained : Cond) ∈ lw_tbl := tb_12 _ (List.mem_of_getElem? (i := 141) (by decide +kernel))
set_option maxRecDepth 100000 in
theorem lR6_26 : (.instanceMethod yX23_chained : Cond) ∈ lw_tbl := tb_12 _ (List.mem_of_getElem? (i := 143) (by decide +kernel))
set_option maxRecDepth 100000 in
theorem lR6_27 : (.selects RX23 yX23_chained yX23_chained : Cond) ∈ lw_tbl := List.mem_append_left _ (List.mem_of_getElem? (i := 224) (by decide +kernel))
set_option maxRecDepth 100000 in
theorem lR6_28 : (.methodLink RX23 538 yX23_call : Cond) ∈ lw_tbl := tb_12 _ (List.mem_of_getElem? (i := 145) (by decide +kernel))
set_option maxRecDepth 100000 in
theorem lR6_29 : (.instanceMethod yX23_call : Cond) ∈ lw_tbl := tb_12 _ (List.mem_of_getElem? (i := 147) (by decide +kernel))
set_option maxRecDepth 100000 in
theorem lR6_30 : (.selects RX23 yX23_call yX23_call : Cond) ∈ lw_tbl := List.mem_append_left _ (List.mem_of_getElem? (i := 225) (by decide +kernel))
set_option maxRecDepth 100000 in
theorem lR6_31 : (.methodLink RX23 541 yX23_made : Cond) ∈ lw_tbl := tb_12 _ (List.mem_of_getElem? (i := 153) (by decide +kernel))
set_option maxRecDepth 100000 in
theorem lR6_32 : (.instanceMethod yX23_made : Cond) ∈ lw_tbl := tb_12 _ (List.mem_of_getElem? (i := 155) (by decide +kernel))
set_option maxRecDepth 100000 in
theorem lR6_33 : (.selects RX23 yX23_made yX23_made : Cond) ∈ lw_tbl := List.mem_append_left _ (List.mem_of_getElem? (i := 227) (by decide +kernel))
set_option maxRecDepth 100000 in
theorem lR6_34 : (.methodLink RX23 544 yX23_variantOf : Cond) ∈ lw_tbl := tb_12 _ (List.mem_of_getElem? (i := 161) (by decide +kernel))
set_option maxRecDepth 100000 in
theorem lR6_35 : (.instanceMethod yX23_variantOf : Cond) ∈ lw_tbl := tb_12 _ (List.mem_of_getElem? (i := 163) (by decide +kernel))
set_option maxRecDepth 100000 in
theorem lR6_36 : (.selects RX23 yX23_variantOf yX23_variantOf : Cond) ∈ lw_tbl := List.mem_append_left _ (List.mem_of_getElem? (i := 229) (by decide +kernel))
set_option maxRecDepth 100000 in
theorem lR6_37 : (.code yX23_operand cX23_operand 5 (some (.object "OwnedPlacesModel$Type")) : Cond) ∈ lw_tbl := tb_12 _ (List.mem_of_getElem? (i := 136) (by decide +kernel))
set_option maxRecDepth 100000 in
theorem lR6_38 : (.code yX23_box cX23_box 3 (some (.object "OwnedPlacesModel$Type")) : Cond) ∈ lw_tbl := tb_12 _ (List.mem_of_getElem? (i := 140) (by decide +kernel))
set_option maxRecDepth 100000 in
theorem lR6_39 : (.code yX23_refer cX23_refer 3 (some (.object "OwnedPlacesModel$Type")) : Cond) ∈ lw_tbl := tb_12 _ (List.mem_of_getElem? (i := 128) (by decide +kernel))
set_option maxRecDepth 100000 in
theorem lR6_40 : (.code yX23_chained cX23_chained 10 (some (.object "OwnedPlacesModel$Type")) : Cond) ∈ lw_tbl := tb_12 _ (List.mem_of_getElem? (i := 144) (by decide +kernel))
set_option maxRecDepth 100000 in
theorem lR6_41 : (.code yX23_fits cX23_fits 4 none : Cond) ∈ lw_tbl := tb_12 _ (List.mem_of_getElem? (i := 152) (by decide +kernel))
set_option maxRecDepth 100000 in
theorem lR6_42 : (.code yX23_call cX23_call 4 (some (.object "OwnedPlacesModel$Type")) : Cond) ∈ lw_tbl := tb_12 _ (List.mem_of_getElem? (i := 148) (by decide +kernel))
set_option maxRecDepth 100000 in
theorem lR6_43 : (.methodLink RX23 547 yX23_fits : Cond) ∈ lw_tbl := tb_12 _ (List.mem_of_getElem? (i := 149) (by decide +kernel))
set_option maxRecDepth 100000 in
theorem lR6_44 : (.instanceMethod yX23_fits : Cond) ∈ lw_tbl := tb_12 _ (List.mem_of_getElem? (i := 151) (by decide +kernel))
set_option maxRecDepth 100000 in
theorem lR6_45 : (.selects RX23 yX23_fits yX23_fits : Cond) ∈ lw_tbl := List.mem_append_left _ (List.mem_of_getElem? (i := 226) (by decide +kernel))
set_option maxRecDepth 100000 in
theorem lR6_46 : (.code yX23_fieldOf cX23_fieldOf 4 (some .int) : Cond) ∈ lw_tbl := tb_12 _ (List.mem_of_getElem? (i := 160) (by decide +kernel))
set_option maxRecDepth 100000 in
theorem lR6_47 : (.code yX23_made cX23_made 8 (some (.object "OwnedPlacesModel$Type")) : Cond) ∈ lw_tbl := tb_12 _ (List.mem_of_getElem? (i := 156) (by decide +kernel))
set_option maxRecDepth 100000 in
theorem lR6_48 : (.methodLink RX23 551 yX23_fieldOf : Cond) ∈ lw_tbl := tb_12 _ (List.mem_of_getElem? (i := 157) (by decide +kernel))
set_option maxRecDepth 100000 in
theorem lR6_49 : (.instanceMethod yX23_fieldOf : Cond) ∈ lw_tbl := tb_12 _ (List.mem_of_getElem? (i := 159) (by decide +kernel))
set_option maxRecDepth 100000 in
theorem lR6_50 : (.selects RX23 yX23_fieldOf yX23_fieldOf : Cond) ∈ lw_tbl := List.mem_append_left _ (List.mem_of_getElem? (i := 228) (by decide +kernel))
set_option maxRecDepth 100000 in
theorem lR6_51 : (.code yX23_variantOf cX23_variantOf 6 (some (.object "OwnedPlacesModel$Type")) : Cond) ∈ lw_tbl := tb_12 _ (List.mem_of_getElem? (i := 164) (by decide +kernel))
set_option maxRecDepth 100000 in
theorem lR6_52 : (.fieldLink RX23 555 "OwnedPlacesModel$Exp" "variant" "I" : Cond) ∈ lw_tbl := tb_11 _ (List.mem_of_getElem? (i := 37) (by decide +kernel))
set_option maxRecDepth 100000 in
theorem lR6_53 : (.code yX23_typeBlock cX23_typeBlock 4 none : Cond) ∈ lw_tbl := tb_12 _ (List.mem_of_getElem? (i := 74) (by decide +kernel))
set_option maxRecDepth 100000 in
theorem lR6_54 : (.methodLink RX23 557 yX23_typeStatement : Cond) ∈ lw_tbl := tb_12 _ (List.mem_of_getElem? (i := 75) (by decide +kernel))
set_option maxRecDepth 100000 in
theorem lR6_55 : (.instanceMethod yX23_typeStatement : Cond) ∈ lw_tbl := tb_12 _ (List.mem_of_getElem? (i := 77) (by decide +kernel))
set_option maxRecDepth 100000 in
theorem lR6_56 : (.selects RX23 yX23_typeStatement yX23_typeStatement : Cond) ∈ lw_tbl := List.mem_append_left _ (List.mem_of_getElem? (i := 212) (by decide +kernel))
set_option maxRecDepth 100000 in
theorem lR6_57 : (.code yX23_condition cX23_condition 3 none : Cond) ∈ lw_tbl := tb_12 _ (List.mem_of_getElem? (i := 172) (by decide +kernel))
set_option maxRecDepth 100000 in
theorem lR6_58 : (.code yX23_typeStatement cX23_typeStatement 3 none : Cond) ∈ lw_tbl := tb_12 _ (List.mem_of_getElem? (i := 78) (by decide +kernel))
set_option maxRecDepth 100000 in
theorem lR6_59 : (.methodLink RX23 560 yX23_typeLet : Cond) ∈ lw_tbl := tb_12 _ (List.mem_of_getElem? (i := 79) (by decide +kernel))
theorem lR6 : ∀ w ∈ wC6, w ∈ lw_tbl := List.forall_mem_cons.mpr ⟨lR6_0, List.forall_mem_cons.mpr ⟨lR6_1, List.forall_mem_cons.mpr ⟨lR6_2, List.forall_mem_cons.mpr ⟨lR6_3, List.forall_mem_cons.mpr ⟨lR6_4, List.forall_mem_cons.mpr ⟨lR6_5, List.forall_mem_cons.mpr ⟨lR6_6, List.forall_mem_cons.mpr ⟨lR6_7, List.forall_mem_cons.mpr ⟨lR6_8, List.forall_mem_cons.mpr ⟨lR6_9, List.forall_mem_cons.mpr ⟨lR6_10, List.forall_mem_cons.mpr ⟨lR6_11, List.forall_mem_cons.mpr ⟨lR6_12, List.forall_mem_cons.mpr ⟨lR6_13, List.forall_mem_cons.mpr ⟨lR6_14, List.forall_mem_cons.mpr ⟨lR6_15, List.forall_mem_cons.mpr ⟨lR6_16, List.forall_mem_cons.mpr ⟨lR6_17, List.forall_mem_cons.mpr ⟨lR6_18, List.forall_mem_cons.mpr ⟨lR6_19, List.forall_mem_cons.mpr ⟨lR6_20, List.forall_mem_cons.mpr ⟨lR6_21, List.forall_mem_cons.mpr ⟨lR6_22, List.forall_mem_cons.mpr ⟨lR6_23, List.forall_mem_cons.mpr ⟨lR6_24, List.forall_mem_cons.mpr ⟨lR6_25, List.forall_mem_cons.mpr ⟨lR6_26, List.forall_mem_cons.mpr ⟨lR6_27, List.forall_mem_cons.mpr ⟨lR6_28, List.forall_mem_cons.mpr ⟨lR6_29, List.forall_mem_cons.mpr ⟨lR6_30, List.forall_mem_cons.mpr ⟨lR6_31, List.forall_mem_cons.mpr ⟨lR6_32, List.forall_mem_cons.mpr ⟨lR6_33, List.forall_mem_cons.mpr ⟨lR6_34, List.forall_mem_cons.mpr ⟨lR6_35, List.forall_mem_cons.mpr ⟨lR6_36, List.forall_mem_cons.mpr ⟨lR6_37, List.forall_mem_cons.mpr ⟨lR6_38, List.forall_mem_cons.mpr ⟨lR6_39, List.forall_mem_cons.mpr ⟨lR6_40, List.forall_mem_cons.mpr ⟨lR6_41, List.forall_mem_cons.mpr ⟨lR6_42, List.forall_mem_cons.mpr ⟨lR6_43, List.forall_mem_cons.mpr ⟨lR6_44, List.forall_mem_cons.mpr ⟨lR6_45, List.forall_mem_cons.mpr ⟨lR6_46, List.forall_mem_cons.mpr ⟨lR6_47, List.forall_mem_cons.mpr ⟨lR6_48, List.forall_mem_cons.mpr ⟨lR6_49, List.forall_mem_cons.mpr ⟨lR6_50, List.forall_mem_cons.mpr ⟨lR6_51, List.forall_mem_cons.mpr ⟨lR6_52, List.forall_mem_cons.mpr ⟨lR6_53, List.forall_mem_cons.mpr ⟨lR6_54, List.forall_mem_cons.mpr ⟨lR6_55, List.forall_mem_cons.mpr ⟨lR6_56, List.forall_mem_cons.mpr ⟨lR6_57, List.forall_mem_cons.mpr ⟨lR6_58, List.forall_mem_cons.mpr ⟨lR6_59, fun _ h => absurd h List.not_mem_nil⟩⟩⟩⟩⟩⟩⟩⟩⟩⟩⟩⟩⟩⟩⟩⟩⟩⟩⟩⟩⟩⟩⟩⟩⟩⟩⟩⟩⟩⟩⟩⟩⟩⟩⟩⟩⟩⟩⟩⟩⟩⟩⟩⟩⟩⟩⟩⟩⟩⟩⟩⟩⟩⟩⟩⟩⟩⟩⟩⟩
set_option maxRecDepth 100000 in
theorem lR7_0 : (.instanceMethod yX23_typeLet : Cond) ∈ lw_tbl := tb_12 _ (List.mem_of_getElem? (i := 81) (by decide +kernel))
set_option maxRecDepth 100000 in
theorem lR7_1 : (.selects RX23 yX23_typeLet yX23_typeLet : Cond) ∈ lw_tbl := List.mem_append_left _ (List.mem_of_getElem? (i := 213) (by decide +kernel))
set_option maxRecDepth 100000 in
theorem lR7_2 : (.methodLink RX23 563 yX23_typeAssign : Cond) ∈ lw_tbl := tb_12 _ (List.mem_of_getElem? (i := 165) (by decide +kernel))
set_option maxRecDepth 100000 in
theorem lR7_3 : (.instanceMethod yX23_typeAssign : Cond) ∈ lw_tbl := tb_12 _ (List.mem_of_getElem? (i := 167) (by decide +kernel))
set_option maxRecDepth 100000 in
theorem lR7_4 : (.selects RX23 yX23_typeAssign yX23_typeAssign : Cond) ∈ lw_tbl := List.mem_append_left _ (List.mem_of_getElem? (i := 230) (by decide +kernel))
set_option maxRecDepth 100000 in
theorem lR7_5 : (.methodLink RX23 566 yX23_condition : Cond) ∈ lw_tbl := tb_12 _ (List.mem_of_getElem? (i := 169) (by decide +kernel))
set_option maxRecDepth 100000 in
theorem lR7_6 : (.instanceMethod yX23_condition : Cond) ∈ lw_tbl := tb_12 _ (List.mem_of_getElem? (i := 171) (by decide +kernel))
set_option maxRecDepth 100000 in
theorem lR7_7 : (.selects RX23 yX23_condition yX23_condition : Cond) ∈ lw_tbl := List.mem_append_left _ (List.mem_of_getElem? (i := 231) (by decide +kernel))
set_option maxRecDepth 100000 in
theorem lR7_8 : (.methodLink RX23 569 yX23_typeBlock : Cond) ∈ lw_tbl := tb_12 _ (List.mem_of_getElem? (i := 71) (by decide +kernel))
set_option maxRecDepth 100000 in
theorem lR7_9 : (.instanceMethod yX23_typeBlock : Cond) ∈ lw_tbl := tb_12 _ (List.mem_of_getElem? (i := 73) (by decide +kernel))
set_option maxRecDepth 100000 in
theorem lR7_10 : (.selects RX23 yX23_typeBlock yX23_typeBlock : Cond) ∈ lw_tbl := List.mem_append_left _ (List.mem_of_getElem? (i := 211) (by decide +kernel))
set_option maxRecDepth 100000 in
theorem lR7_11 : (.methodLink RX23 573 yX23_typeMatch : Cond) ∈ lw_tbl := tb_12 _ (List.mem_of_getElem? (i := 173) (by decide +kernel))
set_option maxRecDepth 100000 in
theorem lR7_12 : (.instanceMethod yX23_typeMatch : Cond) ∈ lw_tbl := tb_12 _ (List.mem_of_getElem? (i := 175) (by decide +kernel))
set_option maxRecDepth 100000 in
theorem lR7_13 : (.selects RX23 yX23_typeMatch yX23_typeMatch : Cond) ∈ lw_tbl := List.mem_append_left _ (List.mem_of_getElem? (i := 232) (by decide +kernel))
set_option maxRecDepth 100000 in
theorem lR7_14 : (.methodLink RX23 576 yX23_typeReturn : Cond) ∈ lw_tbl := tb_12 _ (List.mem_of_getElem? (i := 181) (by decide +kernel))
set_option maxRecDepth 100000 in
theorem lR7_15 : (.instanceMethod yX23_typeReturn : Cond) ∈ lw_tbl := tb_12 _ (List.mem_of_getElem? (i := 183) (by decide +kernel))
set_option maxRecDepth 100000 in
theorem lR7_16 : (.selects RX23 yX23_typeReturn yX23_typeReturn : Cond) ∈ lw_tbl := List.mem_append_left _ (List.mem_of_getElem? (i := 234) (by decide +kernel))
set_option maxRecDepth 100000 in
theorem lR7_17 : (.code yX23_typeLet cX23_typeLet 4 none : Cond) ∈ lw_tbl := tb_12 _ (List.mem_of_getElem? (i := 82) (by decide +kernel))
set_option maxRecDepth 100000 in
theorem lR7_18 : (.methodLink RX23 579 yX23_noLife : Cond) ∈ lw_tbl := tb_12 _ (List.mem_of_getElem? (i := 83) (by decide +kernel))
set_option maxRecDepth 100000 in
theorem lR7_19 : (.instanceMethod yX23_noLife : Cond) ∈ lw_tbl := tb_12 _ (List.mem_of_getElem? (i := 85) (by decide +kernel))
set_option maxRecDepth 100000 in
theorem lR7_20 : (.selects RX23 yX23_noLife yX23_noLife : Cond) ∈ lw_tbl := List.mem_append_left _ (List.mem_of_getElem? (i := 214) (by decide +kernel))
set_option maxRecDepth 100000 in
theorem lR7_21 : (.methodLink RX23 583 yX23_declare : Cond) ∈ lw_tbl := tb_12 _ (List.mem_of_getElem? (i := 46) (by decide +kernel))
set_option maxRecDepth 100000 in
theorem lR7_22 : (.instanceMethod yX23_declare : Cond) ∈ lw_tbl := tb_12 _ (List.mem_of_getElem? (i := 48) (by decide +kernel))
set_option maxRecDepth 100000 in
theorem lR7_23 : (.selects RX23 yX23_declare yX23_declare : Cond) ∈ lw_tbl := List.mem_append_left _ (List.mem_of_getElem? (i := 210) (by decide +kernel))
set_option maxRecDepth 100000 in
theorem lR7_24 : (.fieldLink RX23 587 "OwnedPlacesModel$Statement" "variable" "LOwnedPlacesModel$Variable;" : Cond) ∈ lw_tbl := tb_10 _ (List.mem_of_getElem? (i := 211) (by decide +kernel))
set_option maxRecDepth 100000 in
theorem lR7_25 : (.code yX23_typeAssign cX23_typeAssign 5 none : Cond) ∈ lw_tbl := tb_12 _ (List.mem_of_getElem? (i := 168) (by decide +kernel))
set_option maxRecDepth 100000 in
theorem lR7_26 : (.code yX23_typeReturn cX23_typeReturn 3 none : Cond) ∈ lw_tbl := tb_12 _ (List.mem_of_getElem? (i := 184) (by decide +kernel))
set_option maxRecDepth 100000 in
theorem lR7_27 : (.fieldLink RX23 588 "OwnedPlacesModel" "function" "LOwnedPlacesModel$Item;" : Cond) ∈ lw_tbl := tb_8 _ (List.mem_of_getElem? (i := 188) (by decide +kernel))
set_option maxRecDepth 100000 in
theorem lR7_28 : (.code yX23_typeMatch cX23_typeMatch 8 none : Cond) ∈ lw_tbl := tb_12 _ (List.mem_of_getElem? (i := 176) (by decide +kernel))
set_option maxRecDepth 100000 in
theorem lR7_29 : (.fieldLink RX23 591 "OwnedPlacesModel$Arm" "variant" "I" : Cond) ∈ lw_tbl := tb_11 _ (List.mem_of_getElem? (i := 136) (by decide +kernel))
set_option maxRecDepth 100000 in
theorem lR7_30 : (.methodLink RX23 592 yX23_typeArm : Cond) ∈ lw_tbl := tb_12 _ (List.mem_of_getElem? (i := 177) (by decide +kernel))
set_option maxRecDepth 100000 in
theorem lR7_31 : (.instanceMethod yX23_typeArm : Cond) ∈ lw_tbl := tb_12 _ (List.mem_of_getElem? (i := 179) (by decide +kernel))
set_option maxRecDepth 100000 in
theorem lR7_32 : (.selects RX23 yX23_typeArm yX23_typeArm : Cond) ∈ lw_tbl := List.mem_append_left _ (List.mem_of_getElem? (i := 233) (by decide +kernel))
set_option maxRecDepth 100000 in
theorem lR7_33 : (.code yX23_typeArm cX23_typeArm 6 none : Cond) ∈ lw_tbl := tb_12 _ (List.mem_of_getElem? (i := 180) (by decide +kernel))
set_option maxRecDepth 100000 in
theorem lR7_34 : (.fieldLink RX23 596 "OwnedPlacesModel$Arm" "variables" "[LOwnedPlacesModel$Variable;" : Cond) ∈ lw_tbl := tb_11 _ (List.mem_of_getElem? (i := 141) (by decide +kernel))
set_option maxRecDepth 100000 in
theorem lR7_35 : (.code yX23_ends cX23_ends 3 (some .boolean) : Cond) ∈ lw_tbl := tb_12 _ (List.mem_of_getElem? (i := 188) (by decide +kernel))
set_option maxRecDepth 100000 in
theorem lR7_36 : (.methodLink RX23 598 yX23_ends_ : Cond) ∈ lw_tbl := tb_12 _ (List.mem_of_getElem? (i := 189) (by decide +kernel))
set_option maxRecDepth 100000 in
theorem lR7_37 : (.instanceMethod yX23_ends_ : Cond) ∈ lw_tbl := tb_12 _ (List.mem_of_getElem? (i := 191) (by decide +kernel))
set_option maxRecDepth 100000 in
theorem lR7_38 : (.selects RX23 yX23_ends_ yX23_ends_ : Cond) ∈ lw_tbl := List.mem_append_left _ (List.mem_of_getElem? (i := 236) (by decide +kernel))
set_option maxRecDepth 100000 in
theorem lR7_39 : (.code yX23_ends_ cX23_ends_ 3 (some .boolean) : Cond) ∈ lw_tbl := tb_12 _ (List.mem_of_getElem? (i := 192) (by decide +kernel))
set_option maxRecDepth 100000 in
theorem lR7_40 : (.methodLink RX23 602 yX23_ends : Cond) ∈ lw_tbl := tb_12 _ (List.mem_of_getElem? (i := 185) (by decide +kernel))
set_option maxRecDepth 100000 in
theorem lR7_41 : (.instanceMethod yX23_ends : Cond) ∈ lw_tbl := tb_12 _ (List.mem_of_getElem? (i := 187) (by decide +kernel))
set_option maxRecDepth 100000 in
theorem lR7_42 : (.selects RX23 yX23_ends yX23_ends : Cond) ∈ lw_tbl := List.mem_append_left _ (List.mem_of_getElem? (i := 235) (by decide +kernel))
set_option maxRecDepth 100000 in
theorem lR7_43 : (.code yX23_typeFunction cX23_typeFunction 4 none : Cond) ∈ lw_tbl := tb_12 _ (List.mem_of_getElem? (i := 45) (by decide +kernel))
set_option maxRecDepth 100000 in
theorem lR7_44 : (.code yX23_typeAll cX23_typeAll 2 none : Cond) ∈ lw_tbl := tb_11 _ (List.mem_of_getElem? (i := 188) (by decide +kernel))
set_option maxRecDepth 100000 in
theorem lR7_45 : (.methodLink RX23 605 yX23_itemNames : Cond) ∈ lw_tbl := tb_11 _ (List.mem_of_getElem? (i := 189) (by decide +kernel))
set_option maxRecDepth 100000 in
theorem lR7_46 : (.instanceMethod yX23_itemNames : Cond) ∈ lw_tbl := tb_11 _ (List.mem_of_getElem? (i := 191) (by decide +kernel))
set_option maxRecDepth 100000 in
theorem lR7_47 : (.selects RX23 yX23_itemNames yX23_itemNames : Cond) ∈ lw_tbl := List.mem_append_left _ (List.mem_of_getElem? (i := 191) (by decide +kernel))
set_option maxRecDepth 100000 in
theorem lR7_48 : (.methodLink RX23 608 yX23_itemTypes : Cond) ∈ lw_tbl := tb_11 _ (List.mem_of_getElem? (i := 197) (by decide +kernel))
set_option maxRecDepth 100000 in
theorem lR7_49 : (.instanceMethod yX23_itemTypes : Cond) ∈ lw_tbl := tb_11 _ (List.mem_of_getElem? (i := 199) (by decide +kernel))
set_option maxRecDepth 100000 in
theorem lR7_50 : (.selects RX23 yX23_itemTypes yX23_itemTypes : Cond) ∈ lw_tbl := List.mem_append_left _ (List.mem_of_getElem? (i := 193) (by decide +kernel))
set_option maxRecDepth 100000 in
theorem lR7_51 : (.methodLink RX23 611 yX23_sizes : Cond) ∈ lw_tbl := tb_12 _ (List.mem_of_getElem? (i := 3) (by decide +kernel))
set_option maxRecDepth 100000 in
theorem lR7_52 : (.instanceMethod yX23_sizes : Cond) ∈ lw_tbl := tb_12 _ (List.mem_of_getElem? (i := 5) (by decide +kernel))
set_option maxRecDepth 100000 in
theorem lR7_53 : (.selects RX23 yX23_sizes yX23_sizes : Cond) ∈ lw_tbl := List.mem_append_left _ (List.mem_of_getElem? (i := 200) (by decide +kernel))
set_option maxRecDepth 100000 in
theorem lR7_54 : (.methodLink RX23 614 yX23_leaves : Cond) ∈ lw_tbl := tb_12 _ (List.mem_of_getElem? (i := 26) (by decide +kernel))
set_option maxRecDepth 100000 in
theorem lR7_55 : (.instanceMethod yX23_leaves : Cond) ∈ lw_tbl := tb_12 _ (List.mem_of_getElem? (i := 28) (by decide +kernel))
set_option maxRecDepth 100000 in
theorem lR7_56 : (.selects RX23 yX23_leaves yX23_leaves : Cond) ∈ lw_tbl := List.mem_append_left _ (List.mem_of_getElem? (i := 205) (by decide +kernel))
set_option maxRecDepth 100000 in
theorem lR7_57 : (.methodLink RX23 616 yX23_findMain : Cond) ∈ lw_tbl := tb_12 _ (List.mem_of_getElem? (i := 34) (by decide +kernel))
set_option maxRecDepth 100000 in
theorem lR7_58 : (.instanceMethod yX23_findMain : Cond) ∈ lw_tbl := tb_12 _ (List.mem_of_getElem? (i := 36) (by decide +kernel))
set_option maxRecDepth 100000 in
theorem lR7_59 : (.selects RX23 yX23_findMain yX23_findMain : Cond) ∈ lw_tbl := List.mem_append_left _ (List.mem_of_getElem? (i := 207) (by decide +kernel))
theorem lR7 : ∀ w ∈ wC7, w ∈ lw_tbl := List.forall_mem_cons.mpr ⟨lR7_0, List.forall_mem_cons.mpr ⟨lR7_1, List.forall_mem_cons.mpr ⟨lR7_2, List.forall_mem_cons.mpr ⟨lR7_3, List.forall_mem_cons.mpr ⟨lR7_4, List.forall_mem_cons.mpr ⟨lR7_5, List.forall_mem_cons.mpr ⟨lR7_6, List.forall_mem_cons.mpr ⟨lR7_7, List.forall_mem_cons.mpr ⟨lR7_8, List.forall_mem_cons.mpr ⟨lR7_9, List.forall_mem_cons.mpr ⟨lR7_10, List.forall_mem_cons.mpr ⟨lR7_11, List.forall_mem_cons.mpr ⟨lR7_12, List.forall_mem_cons.mpr ⟨lR7_13, List.forall_mem_cons.mpr ⟨lR7_14, List.forall_mem_cons.mpr ⟨lR7_15, List.forall_mem_cons.mpr ⟨lR7_16, List.forall_mem_cons.mpr ⟨lR7_17, List.forall_mem_cons.mpr ⟨lR7_18, List.forall_mem_cons.mpr ⟨lR7_19, List.forall_mem_cons.mpr ⟨lR7_20, List.forall_mem_cons.mpr ⟨lR7_21, List.forall_mem_cons.mpr ⟨lR7_22, List.forall_mem_cons.mpr ⟨lR7_23, List.forall_mem_cons.mpr ⟨lR7_24, List.forall_mem_cons.mpr ⟨lR7_25, List.forall_mem_cons.mpr ⟨lR7_26, List.forall_mem_cons.mpr ⟨lR7_27, List.forall_mem_cons.mpr ⟨lR7_28, List.forall_mem_cons.mpr ⟨lR7_29, List.forall_mem_cons.mpr ⟨lR7_30, List.forall_mem_cons.mpr ⟨lR7_31, List.forall_mem_cons.mpr ⟨lR7_32, List.forall_mem_cons.mpr ⟨lR7_33, List.forall_mem_cons.mpr ⟨lR7_34, List.forall_mem_cons.mpr ⟨lR7_35, List.forall_mem_cons.mpr ⟨lR7_36, List.forall_mem_cons.mpr ⟨lR7_37, List.forall_mem_cons.mpr ⟨lR7_38, List.forall_mem_cons.mpr ⟨lR7_39, List.forall_mem_cons.mpr ⟨lR7_40, List.forall_mem_cons.mpr ⟨lR7_41, List.forall_mem_cons.mpr ⟨lR7_42, List.forall_mem_cons.mpr ⟨lR7_43, List.forall_mem_cons.mpr ⟨lR7_44, List.forall_mem_cons.mpr ⟨lR7_45, List.forall_mem_cons.mpr ⟨lR7_46, List.forall_mem_cons.mpr ⟨lR7_47, List.forall_mem_cons.mpr ⟨lR7_48, List.forall_mem_cons.mpr ⟨lR7_49, List.forall_mem_cons.mpr ⟨lR7_50, List.forall_mem_cons.mpr ⟨lR7_51, List.forall_mem_cons.mpr ⟨lR7_52, List.forall_mem_cons.mpr ⟨lR7_53, List.forall_mem_cons.mpr ⟨lR7_54, List.forall_mem_cons.mpr ⟨lR7_55, List.forall_mem_cons.mpr ⟨lR7_56, List.forall_mem_cons.mpr ⟨lR7_57, List.forall_mem_cons.mpr ⟨lR7_58, List.forall_mem_cons.mpr ⟨lR7_59, fun _ h => absurd h List.not_mem_nil⟩⟩⟩⟩⟩⟩⟩⟩⟩⟩⟩⟩⟩⟩⟩⟩⟩⟩⟩⟩⟩⟩⟩⟩⟩⟩⟩⟩⟩⟩⟩⟩⟩⟩⟩⟩⟩⟩⟩⟩⟩⟩⟩⟩⟩⟩⟩⟩⟩⟩⟩⟩⟩⟩⟩⟩⟩⟩⟩⟩
set_option maxRecDepth 100000 in
theorem lR8_0 : (.methodLink RX23 619 yX23_typeFunction : Cond) ∈ lw_tbl := tb_12 _ (List.mem_of_getElem? (i := 42) (by decide +kernel))
set_option maxRecDepth 100000 in
theorem lR8_1 : (.instanceMethod yX23_typeFunction : Cond) ∈ lw_tbl := tb_12 _ (List.mem_of_getElem? (i := 44) (by decide +kernel))
set_option maxRecDepth 100000 in
theorem lR8_2 : (.selects RX23 yX23_typeFunction yX23_typeFunction : Cond) ∈ lw_tbl := List.mem_append_left _ (List.mem_of_getElem? (i := 209) (by decide +kernel))
set_option maxRecDepth 100000 in
theorem lR8_3 : (.code yX23_point cX23_point 4 (some .int) : Cond) ∈ lw_tbl := tb_12 _ (List.mem_of_getElem? (i := 220) (by decide +kernel))
set_option maxRecDepth 100000 in
theorem lR8_4 : (.fieldLink RX23 622 "OwnedPlacesModel" "points" "I" : Cond) ∈ lw_tbl := tb_8 _ (List.mem_of_getElem? (i := 189) (by decide +kernel))
set_option maxRecDepth 100000 in
theorem lR8_5 : (.fieldLink RX23 625 "OwnedPlacesModel" "kind" "[I" : Cond) ∈ lw_tbl := tb_8 _ (List.mem_of_getElem? (i := 190) (by decide +kernel))
set_option maxRecDepth 100000 in
theorem lR8_6 : (.fieldLink RX23 627 "OwnedPlacesModel" "token" "[I" : Cond) ∈ lw_tbl := tb_8 _ (List.mem_of_getElem? (i := 195) (by decide +kernel))
set_option maxRecDepth 100000 in
theorem lR8_7 : (.fieldLink RX23 629 "OwnedPlacesModel" "one" "[I" : Cond) ∈ lw_tbl := tb_8 _ (List.mem_of_getElem? (i := 191) (by decide +kernel))
set_option maxRecDepth 100000 in
theorem lR8_8 : (.fieldLink RX23 632 "OwnedPlacesModel" "two" "[I" : Cond) ∈ lw_tbl := tb_8 _ (List.mem_of_getElem? (i := 192) (by decide +kernel))
set_option maxRecDepth 100000 in
theorem lR8_9 : (.fieldLink RX23 635 "OwnedPlacesModel" "jump" "[I" : Cond) ∈ lw_tbl := tb_8 _ (List.mem_of_getElem? (i := 193) (by decide +kernel))
set_option maxRecDepth 100000 in
theorem lR8_10 : (.fieldLink RX23 638 "OwnedPlacesModel" "number" "[J" : Cond) ∈ lw_tbl := tb_8 _ (List.mem_of_getElem? (i := 194) (by decide +kernel))
set_option maxRecDepth 100000 in
theorem lR8_11 : (.fieldLink RX23 640 "OwnedPlacesModel" "access" "[I" : Cond) ∈ lw_tbl := tb_8 _ (List.mem_of_getElem? (i := 196) (by decide +kernel))
set_option maxRecDepth 100000 in
theorem lR8_12 : (.fieldLink RX23 643 "OwnedPlacesModel" "holder" "[I" : Cond) ∈ lw_tbl := tb_8 _ (List.mem_of_getElem? (i := 197) (by decide +kernel))
set_option maxRecDepth 100000 in
theorem lR8_13 : (.fieldLink RX23 646 "OwnedPlacesModel" "loan" "[I" : Cond) ∈ lw_tbl := tb_8 _ (List.mem_of_getElem? (i := 198) (by decide +kernel))
set_option maxRecDepth 100000 in
theorem lR8_14 : (.fieldLink RX23 649 "OwnedPlacesModel" "from" "[[I" : Cond) ∈ lw_tbl := tb_8 _ (List.mem_of_getElem? (i := 199) (by decide +kernel))
set_option maxRecDepth 100000 in
theorem lR8_15 : (.fieldLink RX23 653 "OwnedPlacesModel" "used" "[[I" : Cond) ∈ lw_tbl := tb_8 _ (List.mem_of_getElem? (i := 200) (by decide +kernel))
set_option maxRecDepth 100000 in
theorem lR8_16 : (.fieldLink RX23 656 "OwnedPlacesModel" "path" "[LOwnedPlacesModel$Path;" : Cond) ∈ lw_tbl := tb_8 _ (List.mem_of_getElem? (i := 201) (by decide +kernel))
set_option maxRecDepth 100000 in
theorem lR8_17 : (.fieldLink RX23 660 "OwnedPlacesModel" "ofType" "[LOwnedPlacesModel$Type;" : Cond) ∈ lw_tbl := tb_8 _ (List.mem_of_getElem? (i := 202) (by decide +kernel))
set_option maxRecDepth 100000 in
theorem lR8_18 : (.fieldLink RX23 663 "OwnedPlacesModel" "variable" "[LOwnedPlacesModel$Variable;" : Cond) ∈ lw_tbl := tb_8 _ (List.mem_of_getElem? (i := 203) (by decide +kernel))
set_option maxRecDepth 100000 in
theorem lR8_19 : (.fieldLink RX23 665 "OwnedPlacesModel" "armOf" "[LOwnedPlacesModel$Arm;" : Cond) ∈ lw_tbl := tb_8 _ (List.mem_of_getElem? (i := 204) (by decide +kernel))
set_option maxRecDepth 100000 in
theorem lR8_20 : (.fieldLink RX23 668 "OwnedPlacesModel" "targets" "[[I" : Cond) ∈ lw_tbl := tb_8 _ (List.mem_of_getElem? (i := 205) (by decide +kernel))
set_option maxRecDepth 100000 in
theorem lR8_21 : (.code yX23_just cX23_just 2 (some (.array .int)) : Cond) ∈ lw_tbl := tb_13 _ (List.mem_of_getElem? (i := 33) (by decide +kernel))
set_option maxRecDepth 100000 in
theorem lR8_22 : (.fieldLink RX23 671 "OwnedPlacesModel" "single" "[[I" : Cond) ∈ lw_tbl := tb_8 _ (List.mem_of_getElem? (i := 214) (by decide +kernel))
set_option maxRecDepth 100000 in
theorem lR8_23 : (.code yX23_wholeOf cX23_wholeOf 1 (some (.object "OwnedPlacesModel$Path")) : Cond) ∈ lw_tbl := tb_12 _ (List.mem_of_getElem? (i := 239) (by decide +kernel))
set_option maxRecDepth 100000 in
theorem lR8_24 : (.fieldLink RX23 674 "OwnedPlacesModel$Variable" "whole" "LOwnedPlacesModel$Path;" : Cond) ∈ lw_tbl := tb_12 _ (List.mem_of_getElem? (i := 59) (by decide +kernel))
set_option maxRecDepth 100000 in
theorem lR8_25 : (.classLink RX23 678 RX18 : Cond) ∈ lw_tbl := tb_8 _ (List.mem_of_getElem? (i := 155) (by decide +kernel))
set_option maxRecDepth 100000 in
theorem lR8_26 : (.instantiable RX18 4 : Cond) ∈ lw_tbl := tb_13 _ (List.mem_of_getElem? (i := 0) (by decide +kernel))
set_option maxRecDepth 100000 in
theorem lR8_27 : (.initialized RX18 : Cond) ∈ lw_tbl := tb_1 _ (List.mem_of_getElem? (i := 31) (by decide +kernel))
set_option maxRecDepth 100000 in
theorem lR8_28 : (.methodLink RX23 680 yX18_init : Cond) ∈ lw_tbl := tb_13 _ (List.mem_of_getElem? (i := 1) (by decide +kernel))
set_option maxRecDepth 100000 in
theorem lR8_29 : (.instanceMethod yX18_init : Cond) ∈ lw_tbl := tb_13 _ (List.mem_of_getElem? (i := 2) (by decide +kernel))
set_option maxRecDepth 100000 in
theorem lR8_30 : (.fieldLink RX23 682 "OwnedPlacesModel$Path" "variable" "LOwnedPlacesModel$Variable;" : Cond) ∈ lw_tbl := tb_13 _ (List.mem_of_getElem? (i := 6) (by decide +kernel))
set_option maxRecDepth 100000 in
theorem lR8_31 : (.fieldLink RX23 683 "OwnedPlacesModel$Path" "types" "[LOwnedPlacesModel$Type;" : Cond) ∈ lw_tbl := tb_13 _ (List.mem_of_getElem? (i := 12) (by decide +kernel))
set_option maxRecDepth 100000 in
theorem lR8_32 : (.code yX23_temporary cX23_temporary 1 (some .int) : Cond) ∈ lw_tbl := tb_13 _ (List.mem_of_getElem? (i := 40) (by decide +kernel))
set_option maxRecDepth 100000 in
theorem lR8_33 : (.code yX23_pathOf cX23_pathOf 6 (some (.object "OwnedPlacesModel$Path")) : Cond) ∈ lw_tbl := tb_12 _ (List.mem_of_getElem? (i := 236) (by decide +kernel))
set_option maxRecDepth 100000 in
theorem lR8_34 : (.methodLink RX23 684 yX23_wholeOf : Cond) ∈ lw_tbl := tb_12 _ (List.mem_of_getElem? (i := 237) (by decide +kernel))
set_option maxRecDepth 100000 in
theorem lR8_35 : (.static yX23_wholeOf : Cond) ∈ lw_tbl := tb_12 _ (List.mem_of_getElem? (i := 238) (by decide +kernel))
set_option maxRecDepth 100000 in
theorem lR8_36 : (.fieldLink RX23 688 "OwnedPlacesModel$Path" "steps" "[I" : Cond) ∈ lw_tbl := tb_13 _ (List.mem_of_getElem? (i := 10) (by decide +kernel))
set_option maxRecDepth 100000 in
theorem lR8_37 : (.code yX23_through cX23_through 3 none : Cond) ∈ lw_tbl := tb_13 _ (List.mem_of_getElem? (i := 29) (by decide +kernel))
set_option maxRecDepth 100000 in
theorem lR8_38 : (.methodLink RX23 691 yX18_type : Cond) ∈ lw_tbl := tb_13 _ (List.mem_of_getElem? (i := 22) (by decide +kernel))
set_option maxRecDepth 100000 in
theorem lR8_39 : (.instanceMethod yX18_type : Cond) ∈ lw_tbl := tb_13 _ (List.mem_of_getElem? (i := 23) (by decide +kernel))
set_option maxRecDepth 100000 in
theorem lR8_40 : (.selects RX18 yX18_type yX18_type : Cond) ∈ lw_tbl := tb_13 _ (List.mem_of_getElem? (i := 24) (by decide +kernel))
set_option maxRecDepth 100000 in
theorem lR8_41 : (.methodLink RX23 694 yX23_just : Cond) ∈ lw_tbl := tb_13 _ (List.mem_of_getElem? (i := 30) (by decide +kernel))
set_option maxRecDepth 100000 in
theorem lR8_42 : (.instanceMethod yX23_just : Cond) ∈ lw_tbl := tb_13 _ (List.mem_of_getElem? (i := 32) (by decide +kernel))
set_option maxRecDepth 100000 in
theorem lR8_43 : (.selects RX23 yX23_just yX23_just : Cond) ∈ lw_tbl := List.mem_append_left _ (List.mem_of_getElem? (i := 249) (by decide +kernel))
set_option maxRecDepth 100000 in
theorem lR8_44 : (.code yX23_givesHolder cX23_givesHolder 3 none : Cond) ∈ lw_tbl := tb_13 _ (List.mem_of_getElem? (i := 37) (by decide +kernel))
set_option maxRecDepth 100000 in
theorem lR8_45 : (.fieldLink RX23 698 "OwnedPlacesModel" "height" "I" : Cond) ∈ lw_tbl := tb_8 _ (List.mem_of_getElem? (i := 211) (by decide +kernel))
set_option maxRecDepth 100000 in
theorem lR8_46 : (.methodLink RX23 701 yX23_temporary : Cond) ∈ lw_tbl := tb_13 _ (List.mem_of_getElem? (i := 38) (by decide +kernel))
set_option maxRecDepth 100000 in
theorem lR8_47 : (.static yX23_temporary : Cond) ∈ lw_tbl := tb_13 _ (List.mem_of_getElem? (i := 39) (by decide +kernel))
set_option maxRecDepth 100000 in
theorem lR8_48 : (.code yX23_read cX23_read 6 none : Cond) ∈ lw_tbl := tb_12 _ (List.mem_of_getElem? (i := 232) (by decide +kernel))
set_option maxRecDepth 100000 in
theorem lR8_49 : (.methodLink RX23 704 yX23_pathOf : Cond) ∈ lw_tbl := tb_12 _ (List.mem_of_getElem? (i := 233) (by decide +kernel))
set_option maxRecDepth 100000 in
theorem lR8_50 : (.instanceMethod yX23_pathOf : Cond) ∈ lw_tbl := tb_12 _ (List.mem_of_getElem? (i := 235) (by decide +kernel))
set_option maxRecDepth 100000 in
theorem lR8_51 : (.selects RX23 yX23_pathOf yX23_pathOf : Cond) ∈ lw_tbl := List.mem_append_left _ (List.mem_of_getElem? (i := 247) (by decide +kernel))
set_option maxRecDepth 100000 in
theorem lR8_52 : (.methodLink RX23 708 yX23_point : Cond) ∈ lw_tbl := tb_12 _ (List.mem_of_getElem? (i := 217) (by decide +kernel))
set_option maxRecDepth 100000 in
theorem lR8_53 : (.instanceMethod yX23_point : Cond) ∈ lw_tbl := tb_12 _ (List.mem_of_getElem? (i := 219) (by decide +kernel))
set_option maxRecDepth 100000 in
theorem lR8_54 : (.selects RX23 yX23_point yX23_point : Cond) ∈ lw_tbl := List.mem_append_left _ (List.mem_of_getElem? (i := 243) (by decide +kernel))
set_option maxRecDepth 100000 in
theorem lR8_55 : (.fieldLink RX23 711 "OwnedPlacesModel$Path" "many" "I" : Cond) ∈ lw_tbl := tb_13 _ (List.mem_of_getElem? (i := 8) (by decide +kernel))
set_option maxRecDepth 100000 in
theorem lR8_56 : (.methodLink RX23 712 yX23_through : Cond) ∈ lw_tbl := tb_13 _ (List.mem_of_getElem? (i := 26) (by decide +kernel))
set_option maxRecDepth 100000 in
theorem lR8_57 : (.instanceMethod yX23_through : Cond) ∈ lw_tbl := tb_13 _ (List.mem_of_getElem? (i := 28) (by decide +kernel))
set_option maxRecDepth 100000 in
theorem lR8_58 : (.selects RX23 yX23_through yX23_through : Cond) ∈ lw_tbl := List.mem_append_left _ (List.mem_of_getElem? (i := 248) (by decide +kernel))
set_option maxRecDepth 100000 in
theorem lR8_59 : (.methodLink RX23 716 yX23_givesHolder : Cond) ∈ lw_tbl := tb_13 _ (List.mem_of_getElem? (i := 34) (by decide +kernel))
theorem lR8 : ∀ w ∈ wC8, w ∈ lw_tbl := List.forall_mem_cons.mpr ⟨lR8_0, List.forall_mem_cons.mpr ⟨lR8_1, List.forall_mem_cons.mpr ⟨lR8_2, List.forall_mem_cons.mpr ⟨lR8_3, List.forall_mem_cons.mpr ⟨lR8_4, List.forall_mem_cons.mpr ⟨lR8_5, List.forall_mem_cons.mpr ⟨lR8_6, List.forall_mem_cons.mpr ⟨lR8_7, List.forall_mem_cons.mpr ⟨lR8_8, List.forall_mem_cons.mpr ⟨lR8_9, List.forall_mem_cons.mpr ⟨lR8_10, List.forall_mem_cons.mpr ⟨lR8_11, List.forall_mem_cons.mpr ⟨lR8_12, List.forall_mem_cons.mpr ⟨lR8_13, List.forall_mem_cons.mpr ⟨lR8_14, List.forall_mem_cons.mpr ⟨lR8_15, List.forall_mem_cons.mpr ⟨lR8_16, List.forall_mem_cons.mpr ⟨lR8_17, List.forall_mem_cons.mpr ⟨lR8_18, List.forall_mem_cons.mpr ⟨lR8_19, List.forall_mem_cons.mpr ⟨lR8_20, List.forall_mem_cons.mpr ⟨lR8_21, List.forall_mem_cons.mpr ⟨lR8_22, List.forall_mem_cons.mpr ⟨lR8_23, List.forall_mem_cons.mpr ⟨lR8_24, List.forall_mem_cons.mpr ⟨lR8_25, List.forall_mem_cons.mpr ⟨lR8_26, List.forall_mem_cons.mpr ⟨lR8_27, List.forall_mem_cons.mpr ⟨lR8_28, List.forall_mem_cons.mpr ⟨lR8_29, List.forall_mem_cons.mpr ⟨lR8_30, List.forall_mem_cons.mpr ⟨lR8_31, List.forall_mem_cons.mpr ⟨lR8_32, List.forall_mem_cons.mpr ⟨lR8_33, List.forall_mem_cons.mpr ⟨lR8_34, List.forall_mem_cons.mpr ⟨lR8_35, List.forall_mem_cons.mpr ⟨lR8_36, List.forall_mem_cons.mpr ⟨lR8_37, List.forall_mem_cons.mpr ⟨lR8_38, List.forall_mem_cons.mpr ⟨lR8_39, List.forall_mem_cons.mpr ⟨lR8_40, List.forall_mem_cons.mpr ⟨lR8_41, List.forall_mem_cons.mpr ⟨lR8_42, List.forall_mem_cons.mpr ⟨lR8_43, List.forall_mem_cons.mpr ⟨lR8_44, List.forall_mem_cons.mpr ⟨lR8_45, List.forall_mem_cons.mpr ⟨lR8_46, List.forall_mem_cons.mpr ⟨lR8_47, List.forall_mem_cons.mpr ⟨lR8_48, List.forall_mem_cons.mpr ⟨lR8_49, List.forall_mem_cons.mpr ⟨lR8_50, List.forall_mem_cons.mpr ⟨lR8_51, List.forall_mem_cons.mpr ⟨lR8_52, List.forall_mem_cons.mpr ⟨lR8_53, List.forall_mem_cons.mpr ⟨lR8_54, List.forall_mem_cons.mpr ⟨lR8_55, List.forall_mem_cons.mpr ⟨lR8_56, List.forall_mem_cons.mpr ⟨lR8_57, List.forall_mem_cons.mpr ⟨lR8_58, List.forall_mem_cons.mpr ⟨lR8_59, fun _ h => absurd h List.not_mem_nil⟩⟩⟩⟩⟩⟩⟩⟩⟩⟩⟩⟩⟩⟩⟩⟩⟩⟩⟩⟩⟩⟩⟩⟩⟩⟩⟩⟩⟩⟩⟩⟩⟩⟩⟩⟩⟩⟩⟩⟩⟩⟩⟩⟩⟩⟩⟩⟩⟩⟩⟩⟩⟩⟩⟩⟩⟩⟩⟩⟩
set_option maxRecDepth 100000 in
theorem lR9_0 : (.instanceMethod yX23_givesHolder : Cond) ∈ lw_tbl := tb_13 _ (List.mem_of_getElem? (i := 36) (by decide +kernel))
set_option maxRecDepth 100000 in
theorem lR9_1 : (.selects RX23 yX23_givesHolder yX23_givesHolder : Cond) ∈ lw_tbl := List.mem_append_left _ (List.mem_of_getElem? (i := 250) (by decide +kernel))
set_option maxRecDepth 100000 in
theorem lR9_2 : (.code yX23_newLoan cX23_newLoan 3 (some .int) : Cond) ∈ lw_tbl := tb_12 _ (List.mem_of_getElem? (i := 208) (by decide +kernel))
set_option maxRecDepth 100000 in
theorem lR9_3 : (.fieldLink RX23 720 "OwnedPlacesModel" "loanPath" "[LOwnedPlacesModel$Path;" : Cond) ∈ lw_tbl := tb_8 _ (List.mem_of_getElem? (i := 206) (by decide +kernel))
set_option maxRecDepth 100000 in
theorem lR9_4 : (.fieldLink RX23 723 "OwnedPlacesModel" "loans" "I" : Cond) ∈ lw_tbl := tb_8 _ (List.mem_of_getElem? (i := 210) (by decide +kernel))
set_option maxRecDepth 100000 in
theorem lR9_5 : (.fieldLink RX23 726 "OwnedPlacesModel" "loanShared" "[Z" : Cond) ∈ lw_tbl := tb_8 _ (List.mem_of_getElem? (i := 207) (by decide +kernel))
set_option maxRecDepth 100000 in
theorem lR9_6 : (.fieldLink RX23 729 "OwnedPlacesModel" "outerOf" "[I" : Cond) ∈ lw_tbl := tb_8 _ (List.mem_of_getElem? (i := 208) (by decide +kernel))
set_option maxRecDepth 100000 in
theorem lR9_7 : (.code yX23_lend cX23_lend 4 none : Cond) ∈ lw_tbl := tb_13 _ (List.mem_of_getElem? (i := 44) (by decide +kernel))
set_option maxRecDepth 100000 in
theorem lR9_8 : (.methodLink RX23 732 yX23_newLoan : Cond) ∈ lw_tbl := tb_12 _ (List.mem_of_getElem? (i := 205) (by decide +kernel))
set_option maxRecDepth 100000 in
theorem lR9_9 : (.instanceMethod yX23_newLoan : Cond) ∈ lw_tbl := tb_12 _ (List.mem_of_getElem? (i := 207) (by decide +kernel))
set_option maxRecDepth 100000 in
theorem lR9_10 : (.selects RX23 yX23_newLoan yX23_newLoan : Cond) ∈ lw_tbl := List.mem_append_left _ (List.mem_of_getElem? (i := 240) (by decide +kernel))
set_option maxRecDepth 100000 in
theorem lR9_11 : (.code yX23_give cX23_give 2 none : Cond) ∈ lw_tbl := tb_12 _ (List.mem_of_getElem? (i := 228) (by decide +kernel))
set_option maxRecDepth 100000 in
theorem lR9_12 : (.methodLink RX23 736 yX23_read : Cond) ∈ lw_tbl := tb_12 _ (List.mem_of_getElem? (i := 229) (by decide +kernel))
set_option maxRecDepth 100000 in
theorem lR9_13 : (.instanceMethod yX23_read : Cond) ∈ lw_tbl := tb_12 _ (List.mem_of_getElem? (i := 231) (by decide +kernel))
set_option maxRecDepth 100000 in
theorem lR9_14 : (.selects RX23 yX23_read yX23_read : Cond) ∈ lw_tbl := List.mem_append_left _ (List.mem_of_getElem? (i := 246) (by decide +kernel))
set_option maxRecDepth 100000 in
theorem lR9_15 : (.methodLink RX23 739 yX23_give : Cond) ∈ lw_tbl := tb_12 _ (List.mem_of_getElem? (i := 225) (by decide +kernel))
set_option maxRecDepth 100000 in
theorem lR9_16 : (.instanceMethod yX23_give : Cond) ∈ lw_tbl := tb_12 _ (List.mem_of_getElem? (i := 227) (by decide +kernel))
set_option maxRecDepth 100000 in
theorem lR9_17 : (.selects RX23 yX23_give yX23_give : Cond) ∈ lw_tbl := List.mem_append_left _ (List.mem_of_getElem? (i := 245) (by decide +kernel))
set_option maxRecDepth 100000 in
theorem lR9_18 : (.methodLink RX23 742 yX23_lend : Cond) ∈ lw_tbl := tb_13 _ (List.mem_of_getElem? (i := 41) (by decide +kernel))
set_option maxRecDepth 100000 in
theorem lR9_19 : (.instanceMethod yX23_lend : Cond) ∈ lw_tbl := tb_13 _ (List.mem_of_getElem? (i := 43) (by decide +kernel))
set_option maxRecDepth 100000 in
theorem lR9_20 : (.selects RX23 yX23_lend yX23_lend : Cond) ∈ lw_tbl := List.mem_append_left _ (List.mem_of_getElem? (i := 251) (by decide +kernel))
set_option maxRecDepth 100000 in
theorem lR9_21 : (.methodLink RX23 745 yX23_giveChain : Cond) ∈ lw_tbl := tb_13 _ (List.mem_of_getElem? (i := 45) (by decide +kernel))
set_option maxRecDepth 100000 in
theorem lR9_22 : (.instanceMethod yX23_giveChain : Cond) ∈ lw_tbl := tb_13 _ (List.mem_of_getElem? (i := 47) (by decide +kernel))
set_option maxRecDepth 100000 in
theorem lR9_23 : (.selects RX23 yX23_giveChain yX23_giveChain : Cond) ∈ lw_tbl := List.mem_append_left _ (List.mem_of_getElem? (i := 252) (by decide +kernel))
set_option maxRecDepth 100000 in
theorem lR9_24 : (.methodLink RX23 748 yX23_giveList : Cond) ∈ lw_tbl := tb_13 _ (List.mem_of_getElem? (i := 49) (by decide +kernel))
set_option maxRecDepth 100000 in
theorem lR9_25 : (.instanceMethod yX23_giveList : Cond) ∈ lw_tbl := tb_13 _ (List.mem_of_getElem? (i := 51) (by decide +kernel))
set_option maxRecDepth 100000 in
theorem lR9_26 : (.selects RX23 yX23_giveList yX23_giveList : Cond) ∈ lw_tbl := List.mem_append_left _ (List.mem_of_getElem? (i := 253) (by decide +kernel))
set_option maxRecDepth 100000 in
theorem lR9_27 : (.code yX23_giveChain cX23_giveChain 5 none : Cond) ∈ lw_tbl := tb_13 _ (List.mem_of_getElem? (i := 48) (by decide +kernel))
set_option maxRecDepth 100000 in
theorem lR9_28 : (.code yX23_giveList cX23_giveList 4 none : Cond) ∈ lw_tbl := tb_13 _ (List.mem_of_getElem? (i := 52) (by decide +kernel))
set_option maxRecDepth 100000 in
theorem lR9_29 : (.methodLink RX23 751 yX23_held : Cond) ∈ lw_tbl := tb_13 _ (List.mem_of_getElem? (i := 53) (by decide +kernel))
set_option maxRecDepth 100000 in
theorem lR9_30 : (.instanceMethod yX23_held : Cond) ∈ lw_tbl := tb_13 _ (List.mem_of_getElem? (i := 55) (by decide +kernel))
set_option maxRecDepth 100000 in
theorem lR9_31 : (.selects RX23 yX23_held yX23_held : Cond) ∈ lw_tbl := List.mem_append_left _ (List.mem_of_getElem? (i := 254) (by decide +kernel))
set_option maxRecDepth 100000 in
theorem lR9_32 : (.methodLink RX23 755 yX23_order : Cond) ∈ lw_tbl := tb_13 _ (List.mem_of_getElem? (i := 61) (by decide +kernel))
set_option maxRecDepth 100000 in
theorem lR9_33 : (.instanceMethod yX23_order : Cond) ∈ lw_tbl := tb_13 _ (List.mem_of_getElem? (i := 63) (by decide +kernel))
set_option maxRecDepth 100000 in
theorem lR9_34 : (.selects RX23 yX23_order yX23_order : Cond) ∈ lw_tbl := List.mem_append_left _ (List.mem_of_getElem? (i := 256) (by decide +kernel))
set_option maxRecDepth 100000 in
theorem lR9_35 : (.code yX23_held cX23_held 7 (some (.array .int)) : Cond) ∈ lw_tbl := tb_13 _ (List.mem_of_getElem? (i := 56) (by decide +kernel))
set_option maxRecDepth 100000 in
theorem lR9_36 : (.methodLink RX23 759 yX23_isHeld : Cond) ∈ lw_tbl := tb_13 _ (List.mem_of_getElem? (i := 57) (by decide +kernel))
set_option maxRecDepth 100000 in
theorem lR9_37 : (.instanceMethod yX23_isHeld : Cond) ∈ lw_tbl := tb_13 _ (List.mem_of_getElem? (i := 59) (by decide +kernel))
set_option maxRecDepth 100000 in
theorem lR9_38 : (.selects RX23 yX23_isHeld yX23_isHeld : Cond) ∈ lw_tbl := List.mem_append_left _ (List.mem_of_getElem? (i := 255) (by decide +kernel))
set_option maxRecDepth 100000 in
theorem lR9_39 : (.code yX23_isHeld cX23_isHeld 4 (some .boolean) : Cond) ∈ lw_tbl := tb_13 _ (List.mem_of_getElem? (i := 60) (by decide +kernel))
set_option maxRecDepth 100000 in
theorem lR9_40 : (.code yX23_order cX23_order 4 (some (.array .int)) : Cond) ∈ lw_tbl := tb_13 _ (List.mem_of_getElem? (i := 64) (by decide +kernel))
set_option maxRecDepth 100000 in
theorem lR9_41 : (.code yX23_comesAlive cX23_comesAlive 2 none : Cond) ∈ lw_tbl := tb_12 _ (List.mem_of_getElem? (i := 204) (by decide +kernel))
set_option maxRecDepth 100000 in
theorem lR9_42 : (.fieldLink RX23 763 "OwnedPlacesModel" "alive" "[LOwnedPlacesModel$Variable;" : Cond) ∈ lw_tbl := tb_8 _ (List.mem_of_getElem? (i := 212) (by decide +kernel))
set_option maxRecDepth 100000 in
theorem lR9_43 : (.fieldLink RX23 766 "OwnedPlacesModel" "aliveMany" "I" : Cond) ∈ lw_tbl := tb_8 _ (List.mem_of_getElem? (i := 213) (by decide +kernel))
set_option maxRecDepth 100000 in
theorem lR9_44 : (.code yX23_goOut cX23_goOut 5 none : Cond) ∈ lw_tbl := tb_13 _ (List.mem_of_getElem? (i := 92) (by decide +kernel))
set_option maxRecDepth 100000 in
theorem lR9_45 : (.code yX23_layBlock cX23_layBlock 4 none : Cond) ∈ lw_tbl := tb_12 _ (List.mem_of_getElem? (i := 212) (by decide +kernel))
set_option maxRecDepth 100000 in
theorem lR9_46 : (.methodLink RX23 769 yX23_lay : Cond) ∈ lw_tbl := tb_12 _ (List.mem_of_getElem? (i := 213) (by decide +kernel))
set_option maxRecDepth 100000 in
theorem lR9_47 : (.instanceMethod yX23_lay : Cond) ∈ lw_tbl := tb_12 _ (List.mem_of_getElem? (i := 215) (by decide +kernel))
set_option maxRecDepth 100000 in
theorem lR9_48 : (.selects RX23 yX23_lay yX23_lay : Cond) ∈ lw_tbl := List.mem_append_left _ (List.mem_of_getElem? (i := 242) (by decide +kernel))
set_option maxRecDepth 100000 in
theorem lR9_49 : (.methodLink RX23 772 yX23_goOut : Cond) ∈ lw_tbl := tb_13 _ (List.mem_of_getElem? (i := 89) (by decide +kernel))
set_option maxRecDepth 100000 in
theorem lR9_50 : (.instanceMethod yX23_goOut : Cond) ∈ lw_tbl := tb_13 _ (List.mem_of_getElem? (i := 91) (by decide +kernel))
set_option maxRecDepth 100000 in
theorem lR9_51 : (.selects RX23 yX23_goOut yX23_goOut : Cond) ∈ lw_tbl := List.mem_append_left _ (List.mem_of_getElem? (i := 263) (by decide +kernel))
set_option maxRecDepth 100000 in
theorem lR9_52 : (.code yX23_lay cX23_lay 3 none : Cond) ∈ lw_tbl := tb_12 _ (List.mem_of_getElem? (i := 216) (by decide +kernel))
set_option maxRecDepth 100000 in
theorem lR9_53 : (.methodLink RX23 775 yX23_layLet : Cond) ∈ lw_tbl := tb_12 _ (List.mem_of_getElem? (i := 221) (by decide +kernel))
set_option maxRecDepth 100000 in
theorem lR9_54 : (.instanceMethod yX23_layLet : Cond) ∈ lw_tbl := tb_12 _ (List.mem_of_getElem? (i := 223) (by decide +kernel))
set_option maxRecDepth 100000 in
theorem lR9_55 : (.selects RX23 yX23_layLet yX23_layLet : Cond) ∈ lw_tbl := List.mem_append_left _ (List.mem_of_getElem? (i := 244) (by decide +kernel))
set_option maxRecDepth 100000 in
theorem lR9_56 : (.methodLink RX23 778 yX23_layAssign : Cond) ∈ lw_tbl := tb_13 _ (List.mem_of_getElem? (i := 69) (by decide +kernel))
set_option maxRecDepth 100000 in
theorem lR9_57 : (.instanceMethod yX23_layAssign : Cond) ∈ lw_tbl := tb_13 _ (List.mem_of_getElem? (i := 71) (by decide +kernel))
set_option maxRecDepth 100000 in
theorem lR9_58 : (.selects RX23 yX23_layAssign yX23_layAssign : Cond) ∈ lw_tbl := List.mem_append_left _ (List.mem_of_getElem? (i := 258) (by decide +kernel))
set_option maxRecDepth 100000 in
theorem lR9_59 : (.methodLink RX23 781 yX23_layIf : Cond) ∈ lw_tbl := tb_13 _ (List.mem_of_getElem? (i := 73) (by decide +kernel))
theorem lR9 : ∀ w ∈ wC9, w ∈ lw_tbl := List.forall_mem_cons.mpr ⟨lR9_0, List.forall_mem_cons.mpr ⟨lR9_1, List.forall_mem_cons.mpr ⟨lR9_2, List.forall_mem_cons.mpr ⟨lR9_3, List.forall_mem_cons.mpr ⟨lR9_4, List.forall_mem_cons.mpr ⟨lR9_5, List.forall_mem_cons.mpr ⟨lR9_6, List.forall_mem_cons.mpr ⟨lR9_7, List.forall_mem_cons.mpr ⟨lR9_8, List.forall_mem_cons.mpr ⟨lR9_9, List.forall_mem_cons.mpr ⟨lR9_10, List.forall_mem_cons.mpr ⟨lR9_11, List.forall_mem_cons.mpr ⟨lR9_12, List.forall_mem_cons.mpr ⟨lR9_13, List.forall_mem_cons.mpr ⟨lR9_14, List.forall_mem_cons.mpr ⟨lR9_15, List.forall_mem_cons.mpr ⟨lR9_16, List.forall_mem_cons.mpr ⟨lR9_17, List.forall_mem_cons.mpr ⟨lR9_18, List.forall_mem_cons.mpr ⟨lR9_19, List.forall_mem_cons.mpr ⟨lR9_20, List.forall_mem_cons.mpr ⟨lR9_21, List.forall_mem_cons.mpr ⟨lR9_22, List.forall_mem_cons.mpr ⟨lR9_23, List.forall_mem_cons.mpr ⟨lR9_24, List.forall_mem_cons.mpr ⟨lR9_25, List.forall_mem_cons.mpr ⟨lR9_26, List.forall_mem_cons.mpr ⟨lR9_27, List.forall_mem_cons.mpr ⟨lR9_28, List.forall_mem_cons.mpr ⟨lR9_29, List.forall_mem_cons.mpr ⟨lR9_30, List.forall_mem_cons.mpr ⟨lR9_31, List.forall_mem_cons.mpr ⟨lR9_32, List.forall_mem_cons.mpr ⟨lR9_33, List.forall_mem_cons.mpr ⟨lR9_34, List.forall_mem_cons.mpr ⟨lR9_35, List.forall_mem_cons.mpr ⟨lR9_36, List.forall_mem_cons.mpr ⟨lR9_37, List.forall_mem_cons.mpr ⟨lR9_38, List.forall_mem_cons.mpr ⟨lR9_39, List.forall_mem_cons.mpr ⟨lR9_40, List.forall_mem_cons.mpr ⟨lR9_41, List.forall_mem_cons.mpr ⟨lR9_42, List.forall_mem_cons.mpr ⟨lR9_43, List.forall_mem_cons.mpr ⟨lR9_44, List.forall_mem_cons.mpr ⟨lR9_45, List.forall_mem_cons.mpr ⟨lR9_46, List.forall_mem_cons.mpr ⟨lR9_47, List.forall_mem_cons.mpr ⟨lR9_48, List.forall_mem_cons.mpr ⟨lR9_49, List.forall_mem_cons.mpr ⟨lR9_50, List.forall_mem_cons.mpr ⟨lR9_51, List.forall_mem_cons.mpr ⟨lR9_52, List.forall_mem_cons.mpr ⟨lR9_53, List.forall_mem_cons.mpr ⟨lR9_54, List.forall_mem_cons.mpr ⟨lR9_55, List.forall_mem_cons.mpr ⟨lR9_56, List.forall_mem_cons.mpr ⟨lR9_57, List.forall_mem_cons.mpr ⟨lR9_58, List.forall_mem_cons.mpr ⟨lR9_59, fun _ h => absurd h List.not_mem_nil⟩⟩⟩⟩⟩⟩⟩⟩⟩⟩⟩⟩⟩⟩⟩⟩⟩⟩⟩⟩⟩⟩⟩⟩⟩⟩⟩⟩⟩⟩⟩⟩⟩⟩⟩⟩⟩⟩⟩⟩⟩⟩⟩⟩⟩⟩⟩⟩⟩⟩⟩⟩⟩⟩⟩⟩⟩⟩⟩⟩
set_option maxRecDepth 100000 in
theorem lR10_0 : (.instanceMethod yX23_layIf : Cond) ∈ lw_tbl := tb_13 _ (List.mem_of_getElem? (i := 75) (by decide +kernel))
set_option maxRecDepth 100000 in
theorem lR10_1 : (.selects RX23 yX23_layIf yX23_layIf : Cond) ∈ lw_tbl := List.mem_append_left _ (List.mem_of_getElem? (i := 259) (by decide +kernel))
set_option maxRecDepth 100000 in
theorem lR10_2 : (.methodLink RX23 784 yX23_layWhile : Cond) ∈ lw_tbl := tb_13 _ (List.mem_of_getElem? (i := 77) (by decide +kernel))
set_option maxRecDepth 100000 in
theorem lR10_3 : (.instanceMethod yX23_layWhile : Cond) ∈ lw_tbl := tb_13 _ (List.mem_of_getElem? (i := 79) (by decide +kernel))
set_option maxRecDepth 100000 in
theorem lR10_4 : (.selects RX23 yX23_layWhile yX23_layWhile : Cond) ∈ lw_tbl := List.mem_append_left _ (List.mem_of_getElem? (i := 260) (by decide +kernel))
set_option maxRecDepth 100000 in
theorem lR10_5 : (.methodLink RX23 787 yX23_layMatch : Cond) ∈ lw_tbl := tb_13 _ (List.mem_of_getElem? (i := 81) (by decide +kernel))
set_option maxRecDepth 100000 in
theorem lR10_6 : (.instanceMethod yX23_layMatch : Cond) ∈ lw_tbl := tb_13 _ (List.mem_of_getElem? (i := 83) (by decide +kernel))
set_option maxRecDepth 100000 in
theorem lR10_7 : (.selects RX23 yX23_layMatch yX23_layMatch : Cond) ∈ lw_tbl := List.mem_append_left _ (List.mem_of_getElem? (i := 261) (by decide +kernel))
set_option maxRecDepth 100000 in
theorem lR10_8 : (.methodLink RX23 790 yX23_layReturn : Cond) ∈ lw_tbl := tb_13 _ (List.mem_of_getElem? (i := 93) (by decide +kernel))
set_option maxRecDepth 100000 in
theorem lR10_9 : (.instanceMethod yX23_layReturn : Cond) ∈ lw_tbl := tb_13 _ (List.mem_of_getElem? (i := 95) (by decide +kernel))
set_option maxRecDepth 100000 in
theorem lR10_10 : (.selects RX23 yX23_layReturn yX23_layReturn : Cond) ∈ lw_tbl := List.mem_append_left _ (List.mem_of_getElem? (i := 264) (by decide +kernel))
set_option maxRecDepth 100000 in
theorem lR10_11 : (.methodLink RX23 793 yX23_layBlock : Cond) ∈ lw_tbl := tb_12 _ (List.mem_of_getElem? (i := 209) (by decide +kernel))
set_option maxRecDepth 100000 in
theorem lR10_12 : (.instanceMethod yX23_layBlock : Cond) ∈ lw_tbl := tb_12 _ (List.mem_of_getElem? (i := 211) (by decide +kernel))
set_option maxRecDepth 100000 in
theorem lR10_13 : (.selects RX23 yX23_layBlock yX23_layBlock : Cond) ∈ lw_tbl := List.mem_append_left _ (List.mem_of_getElem? (i := 241) (by decide +kernel))
set_option maxRecDepth 100000 in
theorem lR10_14 : (.code yX23_uses cX23_uses 3 none : Cond) ∈ lw_tbl := tb_13 _ (List.mem_of_getElem? (i := 68) (by decide +kernel))
set_option maxRecDepth 100000 in
theorem lR10_15 : (.code yX23_layLet cX23_layLet 3 none : Cond) ∈ lw_tbl := tb_12 _ (List.mem_of_getElem? (i := 224) (by decide +kernel))
set_option maxRecDepth 100000 in
theorem lR10_16 : (.methodLink RX23 796 yX23_uses : Cond) ∈ lw_tbl := tb_13 _ (List.mem_of_getElem? (i := 65) (by decide +kernel))
set_option maxRecDepth 100000 in
theorem lR10_17 : (.instanceMethod yX23_uses : Cond) ∈ lw_tbl := tb_13 _ (List.mem_of_getElem? (i := 67) (by decide +kernel))
set_option maxRecDepth 100000 in
theorem lR10_18 : (.selects RX23 yX23_uses yX23_uses : Cond) ∈ lw_tbl := List.mem_append_left _ (List.mem_of_getElem? (i := 257) (by decide +kernel))
set_option maxRecDepth 100000 in
theorem lR10_19 : (.methodLink RX23 799 yX23_comesAlive : Cond) ∈ lw_tbl := tb_12 _ (List.mem_of_getElem? (i := 201) (by decide +kernel))
set_option maxRecDepth 100000 in
theorem lR10_20 : (.instanceMethod yX23_comesAlive : Cond) ∈ lw_tbl := tb_12 _ (List.mem_of_getElem? (i := 203) (by decide +kernel))
set_option maxRecDepth 100000 in
theorem lR10_21 : (.selects RX23 yX23_comesAlive yX23_comesAlive : Cond) ∈ lw_tbl := List.mem_append_left _ (List.mem_of_getElem? (i := 239) (by decide +kernel))
set_option maxRecDepth 100000 in
theorem lR10_22 : (.code yX23_layAssign cX23_layAssign 4 none : Cond) ∈ lw_tbl := tb_13 _ (List.mem_of_getElem? (i := 72) (by decide +kernel))
set_option maxRecDepth 100000 in
theorem lR10_23 : (.code yX23_layIf cX23_layIf 5 none : Cond) ∈ lw_tbl := tb_13 _ (List.mem_of_getElem? (i := 76) (by decide +kernel))
set_option maxRecDepth 100000 in
theorem lR10_24 : (.code yX23_layWhile cX23_layWhile 4 none : Cond) ∈ lw_tbl := tb_13 _ (List.mem_of_getElem? (i := 80) (by decide +kernel))
set_option maxRecDepth 100000 in
theorem lR10_25 : (.code yX23_layReturn cX23_layReturn 4 none : Cond) ∈ lw_tbl := tb_13 _ (List.mem_of_getElem? (i := 96) (by decide +kernel))
set_option maxRecDepth 100000 in
theorem lR10_26 : (.code yX23_layMatch cX23_layMatch 9 none : Cond) ∈ lw_tbl := tb_13 _ (List.mem_of_getElem? (i := 84) (by decide +kernel))
set_option maxRecDepth 100000 in
theorem lR10_27 : (.methodLink RX23 803 yX23_layPart : Cond) ∈ lw_tbl := tb_13 _ (List.mem_of_getElem? (i := 85) (by decide +kernel))
set_option maxRecDepth 100000 in
theorem lR10_28 : (.instanceMethod yX23_layPart : Cond) ∈ lw_tbl := tb_13 _ (List.mem_of_getElem? (i := 87) (by decide +kernel))
set_option maxRecDepth 100000 in
theorem lR10_29 : (.selects RX23 yX23_layPart yX23_layPart : Cond) ∈ lw_tbl := List.mem_append_left _ (List.mem_of_getElem? (i := 262) (by decide +kernel))
set_option maxRecDepth 100000 in
theorem lR10_30 : (.code yX23_layPart cX23_layPart 7 none : Cond) ∈ lw_tbl := tb_13 _ (List.mem_of_getElem? (i := 88) (by decide +kernel))
set_option maxRecDepth 100000 in
theorem lR10_31 : (.code yX23_layFunction cX23_layFunction 5 none : Cond) ∈ lw_tbl := tb_12 _ (List.mem_of_getElem? (i := 200) (by decide +kernel))
set_option maxRecDepth 100000 in
theorem lR10_32 : (.fieldLink RX23 807 "OwnedPlacesModel$Item" "start" "I" : Cond) ∈ lw_tbl := tb_10 _ (List.mem_of_getElem? (i := 44) (by decide +kernel))
set_option maxRecDepth 100000 in
theorem lR10_33 : (.fieldLink RX23 810 "OwnedPlacesModel" "outerLife" "[I" : Cond) ∈ lw_tbl := tb_8 _ (List.mem_of_getElem? (i := 209) (by decide +kernel))
set_option maxRecDepth 100000 in
theorem lR10_34 : (.fieldLink RX23 813 "OwnedPlacesModel$Item" "end" "I" : Cond) ∈ lw_tbl := tb_10 _ (List.mem_of_getElem? (i := 43) (by decide +kernel))
set_option maxRecDepth 100000 in
theorem lR10_35 : (.code yX23_follows cX23_follows 3 (some .int) : Cond) ∈ lw_tbl := tb_13 _ (List.mem_of_getElem? (i := 104) (by decide +kernel))
set_option maxRecDepth 100000 in
theorem lR10_36 : (.code yX23_reach cX23_reach 5 none : Cond) ∈ lw_tbl := tb_13 _ (List.mem_of_getElem? (i := 100) (by decide +kernel))
set_option maxRecDepth 100000 in
theorem lR10_37 : (.fieldLink RX23 814 "OwnedPlacesModel" "reached" "[Z" : Cond) ∈ lw_tbl := tb_8 _ (List.mem_of_getElem? (i := 215) (by decide +kernel))
set_option maxRecDepth 100000 in
theorem lR10_38 : (.methodLink RX23 817 yX23_follows : Cond) ∈ lw_tbl := tb_13 _ (List.mem_of_getElem? (i := 101) (by decide +kernel))
set_option maxRecDepth 100000 in
theorem lR10_39 : (.instanceMethod yX23_follows : Cond) ∈ lw_tbl := tb_13 _ (List.mem_of_getElem? (i := 103) (by decide +kernel))
set_option maxRecDepth 100000 in
theorem lR10_40 : (.selects RX23 yX23_follows yX23_follows : Cond) ∈ lw_tbl := List.mem_append_left _ (List.mem_of_getElem? (i := 266) (by decide +kernel))
set_option maxRecDepth 100000 in
theorem lR10_41 : (.code yX23_partsOf cX23_partsOf 5 (some .int) : Cond) ∈ lw_tbl := tb_13 _ (List.mem_of_getElem? (i := 128) (by decide +kernel))
set_option maxRecDepth 100000 in
theorem lR10_42 : (.methodLink RX23 820 yX23_partsOf : Cond) ∈ lw_tbl := tb_13 _ (List.mem_of_getElem? (i := 125) (by decide +kernel))
set_option maxRecDepth 100000 in
theorem lR10_43 : (.instanceMethod yX23_partsOf : Cond) ∈ lw_tbl := tb_13 _ (List.mem_of_getElem? (i := 127) (by decide +kernel))
set_option maxRecDepth 100000 in
theorem lR10_44 : (.selects RX23 yX23_partsOf yX23_partsOf : Cond) ∈ lw_tbl := List.mem_append_left _ (List.mem_of_getElem? (i := 271) (by decide +kernel))
set_option maxRecDepth 100000 in
theorem lR10_45 : (.code yX23_get cX23_get 3 (some .boolean) : Cond) ∈ lw_tbl := tb_13 _ (List.mem_of_getElem? (i := 150) (by decide +kernel))
set_option maxRecDepth 100000 in
theorem lR10_46 : (.code yX23_put cX23_put 6 none : Cond) ∈ lw_tbl := tb_13 _ (List.mem_of_getElem? (i := 115) (by decide +kernel))
set_option maxRecDepth 100000 in
theorem lR10_47 : (.constantLong RX23 823 (-1) : Cond) ∈ lw_tbl := tb_13 _ (List.mem_of_getElem? (i := 116) (by decide +kernel))
set_option maxRecDepth 100000 in
theorem lR10_48 : (.code yX23_partFrom cX23_partFrom 7 (some .int) : Cond) ∈ lw_tbl := tb_13 _ (List.mem_of_getElem? (i := 124) (by decide +kernel))
set_option maxRecDepth 100000 in
theorem lR10_49 : (.fieldLink RX23 825 "OwnedPlacesModel" "partMany" "I" : Cond) ∈ lw_tbl := tb_8 _ (List.mem_of_getElem? (i := 220) (by decide +kernel))
set_option maxRecDepth 100000 in
theorem lR10_50 : (.code yX23_hasStar cX23_hasStar 2 (some .boolean) : Cond) ∈ lw_tbl := tb_13 _ (List.mem_of_getElem? (i := 135) (by decide +kernel))
set_option maxRecDepth 100000 in
theorem lR10_51 : (.code yX23_mark cX23_mark 6 none : Cond) ∈ lw_tbl := tb_13 _ (List.mem_of_getElem? (i := 132) (by decide +kernel))
set_option maxRecDepth 100000 in
theorem lR10_52 : (.fieldLink RX23 828 "OwnedPlacesModel" "outHaving" "[J" : Cond) ∈ lw_tbl := tb_8 _ (List.mem_of_getElem? (i := 219) (by decide +kernel))
set_option maxRecDepth 100000 in
theorem lR10_53 : (.methodLink RX23 831 yX23_put : Cond) ∈ lw_tbl := tb_13 _ (List.mem_of_getElem? (i := 113) (by decide +kernel))
set_option maxRecDepth 100000 in
theorem lR10_54 : (.static yX23_put : Cond) ∈ lw_tbl := tb_13 _ (List.mem_of_getElem? (i := 114) (by decide +kernel))
set_option maxRecDepth 100000 in
theorem lR10_55 : (.fieldLink RX23 835 "OwnedPlacesModel" "outWithout" "[J" : Cond) ∈ lw_tbl := tb_8 _ (List.mem_of_getElem? (i := 218) (by decide +kernel))
set_option maxRecDepth 100000 in
theorem lR10_56 : (.code yX23_moveBehind cX23_moveBehind 3 none : Cond) ∈ lw_tbl := tb_13 _ (List.mem_of_getElem? (i := 120) (by decide +kernel))
set_option maxRecDepth 100000 in
theorem lR10_57 : (.fieldLink RX23 838 "OwnedPlacesModel" "without" "[J" : Cond) ∈ lw_tbl := tb_8 _ (List.mem_of_getElem? (i := 216) (by decide +kernel))
set_option maxRecDepth 100000 in
theorem lR10_58 : (.fieldLink RX23 841 "OwnedPlacesModel" "having" "[J" : Cond) ∈ lw_tbl := tb_8 _ (List.mem_of_getElem? (i := 217) (by decide +kernel))
set_option maxRecDepth 100000 in
theorem lR10_59 : (.methodLink RX23 844 yX23_partFrom : Cond) ∈ lw_tbl := tb_13 _ (List.mem_of_getElem? (i := 121) (by decide +kernel))
theorem lR10 : ∀ w ∈ wC10, w ∈ lw_tbl := List.forall_mem_cons.mpr ⟨lR10_0, List.forall_mem_cons.mpr ⟨lR10_1, List.forall_mem_cons.mpr ⟨lR10_2, List.forall_mem_cons.mpr ⟨lR10_3, List.forall_mem_cons.mpr ⟨lR10_4, List.forall_mem_cons.mpr ⟨lR10_5, List.forall_mem_cons.mpr ⟨lR10_6, List.forall_mem_cons.mpr ⟨lR10_7, List.forall_mem_cons.mpr ⟨lR10_8, List.forall_mem_cons.mpr ⟨lR10_9, List.forall_mem_cons.mpr ⟨lR10_10, List.forall_mem_cons.mpr ⟨lR10_11, List.forall_mem_cons.mpr ⟨lR10_12, List.forall_mem_cons.mpr ⟨lR10_13, List.forall_mem_cons.mpr ⟨lR10_14, List.forall_mem_cons.mpr ⟨lR10_15, List.forall_mem_cons.mpr ⟨lR10_16, List.forall_mem_cons.mpr ⟨lR10_17, List.forall_mem_cons.mpr ⟨lR10_18, List.forall_mem_cons.mpr ⟨lR10_19, List.forall_mem_cons.mpr ⟨lR10_20, List.forall_mem_cons.mpr ⟨lR10_21, List.forall_mem_cons.mpr ⟨lR10_22, List.forall_mem_cons.mpr ⟨lR10_23, List.forall_mem_cons.mpr ⟨lR10_24, List.forall_mem_cons.mpr ⟨lR10_25, List.forall_mem_cons.mpr ⟨lR10_26, List.forall_mem_cons.mpr ⟨lR10_27, List.forall_mem_cons.mpr ⟨lR10_28, List.forall_mem_cons.mpr ⟨lR10_29, List.forall_mem_cons.mpr ⟨lR10_30, List.forall_mem_cons.mpr ⟨lR10_31, List.forall_mem_cons.mpr ⟨lR10_32, List.forall_mem_cons.mpr ⟨lR10_33, List.forall_mem_cons.mpr ⟨lR10_34, List.forall_mem_cons.mpr ⟨lR10_35, List.forall_mem_cons.mpr ⟨lR10_36, List.forall_mem_cons.mpr ⟨lR10_37, List.forall_mem_cons.mpr ⟨lR10_38, List.forall_mem_cons.mpr ⟨lR10_39, List.forall_mem_cons.mpr ⟨lR10_40, List.forall_mem_cons.mpr ⟨lR10_41, List.forall_mem_cons.mpr ⟨lR10_42, List.forall_mem_cons.mpr ⟨lR10_43, List.forall_mem_cons.mpr ⟨lR10_44, List.forall_mem_cons.mpr ⟨lR10_45, List.forall_mem_cons.mpr ⟨lR10_46, List.forall_mem_cons.mpr ⟨lR10_47, List.forall_mem_cons.mpr ⟨lR10_48, List.forall_mem_cons.mpr ⟨lR10_49, List.forall_mem_cons.mpr ⟨lR10_50, List.forall_mem_cons.mpr ⟨lR10_51, List.forall_mem_cons.mpr ⟨lR10_52, List.forall_mem_cons.mpr ⟨lR10_53, List.forall_mem_cons.mpr ⟨lR10_54, List.forall_mem_cons.mpr ⟨lR10_55, List.forall_mem_cons.mpr ⟨lR10_56, List.forall_mem_cons.mpr ⟨lR10_57, List.forall_mem_cons.mpr ⟨lR10_58, List.forall_mem_cons.mpr ⟨lR10_59, fun _ h => absurd h List.not_mem_nil⟩⟩⟩⟩⟩⟩⟩⟩⟩⟩⟩⟩⟩⟩⟩⟩⟩⟩⟩⟩⟩⟩⟩⟩⟩⟩⟩⟩⟩⟩⟩⟩⟩⟩⟩⟩⟩⟩⟩⟩⟩⟩⟩⟩⟩⟩⟩⟩⟩⟩⟩⟩⟩⟩⟩⟩⟩⟩⟩⟩
set_option maxRecDepth 100000 in
theorem lR11_0 : (.instanceMethod yX23_partFrom : Cond) ∈ lw_tbl := tb_13 _ (List.mem_of_getElem? (i := 123) (by decide +kernel))
set_option maxRecDepth 100000 in
theorem lR11_1 : (.selects RX23 yX23_partFrom yX23_partFrom : Cond) ∈ lw_tbl := List.mem_append_left _ (List.mem_of_getElem? (i := 270) (by decide +kernel))
set_option maxRecDepth 100000 in
theorem lR11_2 : (.methodLink RX23 848 yX23_mark : Cond) ∈ lw_tbl := tb_13 _ (List.mem_of_getElem? (i := 129) (by decide +kernel))
set_option maxRecDepth 100000 in
theorem lR11_3 : (.instanceMethod yX23_mark : Cond) ∈ lw_tbl := tb_13 _ (List.mem_of_getElem? (i := 131) (by decide +kernel))
set_option maxRecDepth 100000 in
theorem lR11_4 : (.selects RX23 yX23_mark yX23_mark : Cond) ∈ lw_tbl := List.mem_append_left _ (List.mem_of_getElem? (i := 272) (by decide +kernel))
set_option maxRecDepth 100000 in
theorem lR11_5 : (.methodLink RX23 852 yX23_hasStar : Cond) ∈ lw_tbl := tb_13 _ (List.mem_of_getElem? (i := 133) (by decide +kernel))
set_option maxRecDepth 100000 in
theorem lR11_6 : (.static yX23_hasStar : Cond) ∈ lw_tbl := tb_13 _ (List.mem_of_getElem? (i := 134) (by decide +kernel))
set_option maxRecDepth 100000 in
theorem lR11_7 : (.code yX23_spreadMoves cX23_spreadMoves 5 none : Cond) ∈ lw_tbl := tb_13 _ (List.mem_of_getElem? (i := 112) (by decide +kernel))
set_option maxRecDepth 100000 in
theorem lR11_8 : (.methodLink RX23 856 yX23_moveBehind : Cond) ∈ lw_tbl := tb_13 _ (List.mem_of_getElem? (i := 117) (by decide +kernel))
set_option maxRecDepth 100000 in
theorem lR11_9 : (.instanceMethod yX23_moveBehind : Cond) ∈ lw_tbl := tb_13 _ (List.mem_of_getElem? (i := 119) (by decide +kernel))
set_option maxRecDepth 100000 in
theorem lR11_10 : (.selects RX23 yX23_moveBehind yX23_moveBehind : Cond) ∈ lw_tbl := List.mem_append_left _ (List.mem_of_getElem? (i := 269) (by decide +kernel))
set_option maxRecDepth 100000 in
theorem lR11_11 : (.methodLink RX23 859 yX23_merges : Cond) ∈ lw_tbl := tb_13 _ (List.mem_of_getElem? (i := 136) (by decide +kernel))
set_option maxRecDepth 100000 in
theorem lR11_12 : (.instanceMethod yX23_merges : Cond) ∈ lw_tbl := tb_13 _ (List.mem_of_getElem? (i := 138) (by decide +kernel))
set_option maxRecDepth 100000 in
theorem lR11_13 : (.selects RX23 yX23_merges yX23_merges : Cond) ∈ lw_tbl := List.mem_append_left _ (List.mem_of_getElem? (i := 273) (by decide +kernel))
set_option maxRecDepth 100000 in
theorem lR11_14 : (.code yX23_merges cX23_merges 8 (some .boolean) : Cond) ∈ lw_tbl := tb_13 _ (List.mem_of_getElem? (i := 139) (by decide +kernel))
set_option maxRecDepth 100000 in
theorem lR11_15 : (.code yX23_some cX23_some 6 (some .boolean) : Cond) ∈ lw_tbl := tb_13 _ (List.mem_of_getElem? (i := 147) (by decide +kernel))
set_option maxRecDepth 100000 in
theorem lR11_16 : (.methodLink RX23 862 yX23_get : Cond) ∈ lw_tbl := tb_13 _ (List.mem_of_getElem? (i := 148) (by decide +kernel))
set_option maxRecDepth 100000 in
theorem lR11_17 : (.static yX23_get : Cond) ∈ lw_tbl := tb_13 _ (List.mem_of_getElem? (i := 149) (by decide +kernel))
set_option maxRecDepth 100000 in
theorem lR11_18 : (.code yX23_moveWrong cX23_moveWrong 4 (some .boolean) : Cond) ∈ lw_tbl := tb_13 _ (List.mem_of_getElem? (i := 143) (by decide +kernel))
set_option maxRecDepth 100000 in
theorem lR11_19 : (.methodLink RX23 866 yX23_some : Cond) ∈ lw_tbl := tb_13 _ (List.mem_of_getElem? (i := 144) (by decide +kernel))
set_option maxRecDepth 100000 in
theorem lR11_20 : (.instanceMethod yX23_some : Cond) ∈ lw_tbl := tb_13 _ (List.mem_of_getElem? (i := 146) (by decide +kernel))
set_option maxRecDepth 100000 in
theorem lR11_21 : (.selects RX23 yX23_some yX23_some : Cond) ∈ lw_tbl := List.mem_append_left _ (List.mem_of_getElem? (i := 275) (by decide +kernel))
set_option maxRecDepth 100000 in
theorem lR11_22 : (.code yX23_checkMoves cX23_checkMoves 4 none : Cond) ∈ lw_tbl := tb_13 _ (List.mem_of_getElem? (i := 108) (by decide +kernel))
set_option maxRecDepth 100000 in
theorem lR11_23 : (.methodLink RX23 870 yX23_spreadMoves : Cond) ∈ lw_tbl := tb_13 _ (List.mem_of_getElem? (i := 109) (by decide +kernel))
set_option maxRecDepth 100000 in
theorem lR11_24 : (.instanceMethod yX23_spreadMoves : Cond) ∈ lw_tbl := tb_13 _ (List.mem_of_getElem? (i := 111) (by decide +kernel))
set_option maxRecDepth 100000 in
theorem lR11_25 : (.selects RX23 yX23_spreadMoves yX23_spreadMoves : Cond) ∈ lw_tbl := List.mem_append_left _ (List.mem_of_getElem? (i := 268) (by decide +kernel))
set_option maxRecDepth 100000 in
theorem lR11_26 : (.methodLink RX23 873 yX23_moveWrong : Cond) ∈ lw_tbl := tb_13 _ (List.mem_of_getElem? (i := 140) (by decide +kernel))
set_option maxRecDepth 100000 in
theorem lR11_27 : (.instanceMethod yX23_moveWrong : Cond) ∈ lw_tbl := tb_13 _ (List.mem_of_getElem? (i := 142) (by decide +kernel))
set_option maxRecDepth 100000 in
theorem lR11_28 : (.selects RX23 yX23_moveWrong yX23_moveWrong : Cond) ∈ lw_tbl := List.mem_append_left _ (List.mem_of_getElem? (i := 274) (by decide +kernel))
set_option maxRecDepth 100000 in
theorem lR11_29 : (.code yX23_spreadLives cX23_spreadLives 8 none : Cond) ∈ lw_tbl := tb_13 _ (List.mem_of_getElem? (i := 158) (by decide +kernel))
set_option maxRecDepth 100000 in
theorem lR11_30 : (.fieldLink RX23 876 "OwnedPlacesModel" "lives" "[J" : Cond) ∈ lw_tbl := tb_8 _ (List.mem_of_getElem? (i := 221) (by decide +kernel))
set_option maxRecDepth 100000 in
theorem lR11_31 : (.methodLink RX23 878 yX23_ahead : Cond) ∈ lw_tbl := tb_13 _ (List.mem_of_getElem? (i := 159) (by decide +kernel))
set_option maxRecDepth 100000 in
theorem lR11_32 : (.instanceMethod yX23_ahead : Cond) ∈ lw_tbl := tb_13 _ (List.mem_of_getElem? (i := 161) (by decide +kernel))
set_option maxRecDepth 100000 in
theorem lR11_33 : (.selects RX23 yX23_ahead yX23_ahead : Cond) ∈ lw_tbl := List.mem_append_left _ (List.mem_of_getElem? (i := 278) (by decide +kernel))
set_option maxRecDepth 100000 in
theorem lR11_34 : (.fieldLink RX23 881 "OwnedPlacesModel" "behind" "[J" : Cond) ∈ lw_tbl := tb_8 _ (List.mem_of_getElem? (i := 223) (by decide +kernel))
set_option maxRecDepth 100000 in
theorem lR11_35 : (.code yX23_ahead cX23_ahead 3 none : Cond) ∈ lw_tbl := tb_13 _ (List.mem_of_getElem? (i := 162) (by decide +kernel))
set_option maxRecDepth 100000 in
theorem lR11_36 : (.code yX23_holdBehind cX23_holdBehind 5 none : Cond) ∈ lw_tbl := tb_13 _ (List.mem_of_getElem? (i := 170) (by decide +kernel))
set_option maxRecDepth 100000 in
theorem lR11_37 : (.fieldLink RX23 884 "OwnedPlacesModel" "holding" "[J" : Cond) ∈ lw_tbl := tb_8 _ (List.mem_of_getElem? (i := 222) (by decide +kernel))
set_option maxRecDepth 100000 in
theorem lR11_38 : (.code yX23_spreadLoan cX23_spreadLoan 10 none : Cond) ∈ lw_tbl := tb_13 _ (List.mem_of_getElem? (i := 166) (by decide +kernel))
set_option maxRecDepth 100000 in
theorem lR11_39 : (.methodLink RX23 887 yX23_holdBehind : Cond) ∈ lw_tbl := tb_13 _ (List.mem_of_getElem? (i := 167) (by decide +kernel))
set_option maxRecDepth 100000 in
theorem lR11_40 : (.instanceMethod yX23_holdBehind : Cond) ∈ lw_tbl := tb_13 _ (List.mem_of_getElem? (i := 169) (by decide +kernel))
set_option maxRecDepth 100000 in
theorem lR11_41 : (.selects RX23 yX23_holdBehind yX23_holdBehind : Cond) ∈ lw_tbl := List.mem_append_left _ (List.mem_of_getElem? (i := 280) (by decide +kernel))
set_option maxRecDepth 100000 in
theorem lR11_42 : (.code yX23_overlap cX23_overlap 3 (some .boolean) : Cond) ∈ lw_tbl := tb_13 _ (List.mem_of_getElem? (i := 177) (by decide +kernel))
set_option maxRecDepth 100000 in
theorem lR11_43 : (.code yX23_meets cX23_meets 6 (some .boolean) : Cond) ∈ lw_tbl := tb_13 _ (List.mem_of_getElem? (i := 174) (by decide +kernel))
set_option maxRecDepth 100000 in
theorem lR11_44 : (.methodLink RX23 890 yX23_overlap : Cond) ∈ lw_tbl := tb_13 _ (List.mem_of_getElem? (i := 175) (by decide +kernel))
set_option maxRecDepth 100000 in
theorem lR11_45 : (.static yX23_overlap : Cond) ∈ lw_tbl := tb_13 _ (List.mem_of_getElem? (i := 176) (by decide +kernel))
set_option maxRecDepth 100000 in
theorem lR11_46 : (.code yX23_aliveBehind cX23_aliveBehind 4 (some .boolean) : Cond) ∈ lw_tbl := tb_13 _ (List.mem_of_getElem? (i := 181) (by decide +kernel))
set_option maxRecDepth 100000 in
theorem lR11_47 : (.code yX23_goesOut cX23_goesOut 4 (some .boolean) : Cond) ∈ lw_tbl := tb_13 _ (List.mem_of_getElem? (i := 185) (by decide +kernel))
set_option maxRecDepth 100000 in
theorem lR11_48 : (.code yX23_checkLoans cX23_checkLoans 6 none : Cond) ∈ lw_tbl := tb_13 _ (List.mem_of_getElem? (i := 154) (by decide +kernel))
set_option maxRecDepth 100000 in
theorem lR11_49 : (.methodLink RX23 894 yX23_spreadLives : Cond) ∈ lw_tbl := tb_13 _ (List.mem_of_getElem? (i := 155) (by decide +kernel))
set_option maxRecDepth 100000 in
theorem lR11_50 : (.instanceMethod yX23_spreadLives : Cond) ∈ lw_tbl := tb_13 _ (List.mem_of_getElem? (i := 157) (by decide +kernel))
set_option maxRecDepth 100000 in
theorem lR11_51 : (.selects RX23 yX23_spreadLives yX23_spreadLives : Cond) ∈ lw_tbl := List.mem_append_left _ (List.mem_of_getElem? (i := 277) (by decide +kernel))
set_option maxRecDepth 100000 in
theorem lR11_52 : (.methodLink RX23 897 yX23_spreadLoan : Cond) ∈ lw_tbl := tb_13 _ (List.mem_of_getElem? (i := 163) (by decide +kernel))
set_option maxRecDepth 100000 in
theorem lR11_53 : (.instanceMethod yX23_spreadLoan : Cond) ∈ lw_tbl := tb_13 _ (List.mem_of_getElem? (i := 165) (by decide +kernel))
set_option maxRecDepth 100000 in
theorem lR11_54 : (.selects RX23 yX23_spreadLoan yX23_spreadLoan : Cond) ∈ lw_tbl := List.mem_append_left _ (List.mem_of_getElem? (i := 279) (by decide +kernel))
set_option maxRecDepth 100000 in
theorem lR11_55 : (.methodLink RX23 901 yX23_meets : Cond) ∈ lw_tbl := tb_13 _ (List.mem_of_getElem? (i := 171) (by decide +kernel))
set_option maxRecDepth 100000 in
theorem lR11_56 : (.instanceMethod yX23_meets : Cond) ∈ lw_tbl := tb_13 _ (List.mem_of_getElem? (i := 173) (by decide +kernel))
set_option maxRecDepth 100000 in
theorem lR11_57 : (.selects RX23 yX23_meets yX23_meets : Cond) ∈ lw_tbl := List.mem_append_left _ (List.mem_of_getElem? (i := 281) (by decide +kernel))
set_option maxRecDepth 100000 in
theorem lR11_58 : (.methodLink RX23 904 yX23_aliveBehind : Cond) ∈ lw_tbl := tb_13 _ (List.mem_of_getElem? (i := 178) (by decide +kernel))
set_option maxRecDepth 100000 in
theorem lR11_59 : (.instanceMethod yX23_aliveBehind : Cond) ∈ lw_tbl := tb_13 _ (List.mem_of_getElem? (i := 180) (by decide +kernel))
theorem lR11 : ∀ w ∈ wC11, w ∈ lw_tbl := List.forall_mem_cons.mpr ⟨lR11_0, List.forall_mem_cons.mpr ⟨lR11_1, List.forall_mem_cons.mpr ⟨lR11_2, List.forall_mem_cons.mpr ⟨lR11_3, List.forall_mem_cons.mpr ⟨lR11_4, List.forall_mem_cons.mpr ⟨lR11_5, List.forall_mem_cons.mpr ⟨lR11_6, List.forall_mem_cons.mpr ⟨lR11_7, List.forall_mem_cons.mpr ⟨lR11_8, List.forall_mem_cons.mpr ⟨lR11_9, List.forall_mem_cons.mpr ⟨lR11_10, List.forall_mem_cons.mpr ⟨lR11_11, List.forall_mem_cons.mpr ⟨lR11_12, List.forall_mem_cons.mpr ⟨lR11_13, List.forall_mem_cons.mpr ⟨lR11_14, List.forall_mem_cons.mpr ⟨lR11_15, List.forall_mem_cons.mpr ⟨lR11_16, List.forall_mem_cons.mpr ⟨lR11_17, List.forall_mem_cons.mpr ⟨lR11_18, List.forall_mem_cons.mpr ⟨lR11_19, List.forall_mem_cons.mpr ⟨lR11_20, List.forall_mem_cons.mpr ⟨lR11_21, List.forall_mem_cons.mpr ⟨lR11_22, List.forall_mem_cons.mpr ⟨lR11_23, List.forall_mem_cons.mpr ⟨lR11_24, List.forall_mem_cons.mpr ⟨lR11_25, List.forall_mem_cons.mpr ⟨lR11_26, List.forall_mem_cons.mpr ⟨lR11_27, List.forall_mem_cons.mpr ⟨lR11_28, List.forall_mem_cons.mpr ⟨lR11_29, List.forall_mem_cons.mpr ⟨lR11_30, List.forall_mem_cons.mpr ⟨lR11_31, List.forall_mem_cons.mpr ⟨lR11_32, List.forall_mem_cons.mpr ⟨lR11_33, List.forall_mem_cons.mpr ⟨lR11_34, List.forall_mem_cons.mpr ⟨lR11_35, List.forall_mem_cons.mpr ⟨lR11_36, List.forall_mem_cons.mpr ⟨lR11_37, List.forall_mem_cons.mpr ⟨lR11_38, List.forall_mem_cons.mpr ⟨lR11_39, List.forall_mem_cons.mpr ⟨lR11_40, List.forall_mem_cons.mpr ⟨lR11_41, List.forall_mem_cons.mpr ⟨lR11_42, List.forall_mem_cons.mpr ⟨lR11_43, List.forall_mem_cons.mpr ⟨lR11_44, List.forall_mem_cons.mpr ⟨lR11_45, List.forall_mem_cons.mpr ⟨lR11_46, List.forall_mem_cons.mpr ⟨lR11_47, List.forall_mem_cons.mpr ⟨lR11_48, List.forall_mem_cons.mpr ⟨lR11_49, List.forall_mem_cons.mpr ⟨lR11_50, List.forall_mem_cons.mpr ⟨lR11_51, List.forall_mem_cons.mpr ⟨lR11_52, List.forall_mem_cons.mpr ⟨lR11_53, List.forall_mem_cons.mpr ⟨lR11_54, List.forall_mem_cons.mpr ⟨lR11_55, List.forall_mem_cons.mpr ⟨lR11_56, List.forall_mem_cons.mpr ⟨lR11_57, List.forall_mem_cons.mpr ⟨lR11_58, List.forall_mem_cons.mpr ⟨lR11_59, fun _ h => absurd h List.not_mem_nil⟩⟩⟩⟩⟩⟩⟩⟩⟩⟩⟩⟩⟩⟩⟩⟩⟩⟩⟩⟩⟩⟩⟩⟩⟩⟩⟩⟩⟩⟩⟩⟩⟩⟩⟩⟩⟩⟩⟩⟩⟩⟩⟩⟩⟩⟩⟩⟩⟩⟩⟩⟩⟩⟩⟩⟩⟩⟩⟩⟩
set_option maxRecDepth 100000 in
theorem lR12_0 : (.selects RX23 yX23_aliveBehind yX23_aliveBehind : Cond) ∈ lw_tbl := List.mem_append_left _ (List.mem_of_getElem? (i := 282) (by decide +kernel))
set_option maxRecDepth 100000 in
theorem lR12_1 : (.methodLink RX23 907 yX23_goesOut : Cond) ∈ lw_tbl := tb_13 _ (List.mem_of_getElem? (i := 182) (by decide +kernel))
set_option maxRecDepth 100000 in
theorem lR12_2 : (.instanceMethod yX23_goesOut : Cond) ∈ lw_tbl := tb_13 _ (List.mem_of_getElem? (i := 184) (by decide +kernel))
set_option maxRecDepth 100000 in
theorem lR12_3 : (.selects RX23 yX23_goesOut yX23_goesOut : Cond) ∈ lw_tbl := List.mem_append_left _ (List.mem_of_getElem? (i := 283) (by decide +kernel))
set_option maxRecDepth 100000 in
theorem lR12_4 : (.code yX23_layAll cX23_layAll 2 none : Cond) ∈ lw_tbl := tb_12 _ (List.mem_of_getElem? (i := 196) (by decide +kernel))
set_option maxRecDepth 100000 in
theorem lR12_5 : (.methodLink RX23 911 yX23_layFunction : Cond) ∈ lw_tbl := tb_12 _ (List.mem_of_getElem? (i := 197) (by decide +kernel))
set_option maxRecDepth 100000 in
theorem lR12_6 : (.instanceMethod yX23_layFunction : Cond) ∈ lw_tbl := tb_12 _ (List.mem_of_getElem? (i := 199) (by decide +kernel))
set_option maxRecDepth 100000 in
theorem lR12_7 : (.selects RX23 yX23_layFunction yX23_layFunction : Cond) ∈ lw_tbl := List.mem_append_left _ (List.mem_of_getElem? (i := 238) (by decide +kernel))
set_option maxRecDepth 100000 in
theorem lR12_8 : (.methodLink RX23 914 yX23_reach : Cond) ∈ lw_tbl := tb_13 _ (List.mem_of_getElem? (i := 97) (by decide +kernel))
set_option maxRecDepth 100000 in
theorem lR12_9 : (.instanceMethod yX23_reach : Cond) ∈ lw_tbl := tb_13 _ (List.mem_of_getElem? (i := 99) (by decide +kernel))
set_option maxRecDepth 100000 in
theorem lR12_10 : (.selects RX23 yX23_reach yX23_reach : Cond) ∈ lw_tbl := List.mem_append_left _ (List.mem_of_getElem? (i := 265) (by decide +kernel))
set_option maxRecDepth 100000 in
theorem lR12_11 : (.methodLink RX23 917 yX23_checkMoves : Cond) ∈ lw_tbl := tb_13 _ (List.mem_of_getElem? (i := 105) (by decide +kernel))
set_option maxRecDepth 100000 in
theorem lR12_12 : (.instanceMethod yX23_checkMoves : Cond) ∈ lw_tbl := tb_13 _ (List.mem_of_getElem? (i := 107) (by decide +kernel))
set_option maxRecDepth 100000 in
theorem lR12_13 : (.selects RX23 yX23_checkMoves yX23_checkMoves : Cond) ∈ lw_tbl := List.mem_append_left _ (List.mem_of_getElem? (i := 267) (by decide +kernel))
set_option maxRecDepth 100000 in
theorem lR12_14 : (.methodLink RX23 920 yX23_checkLoans : Cond) ∈ lw_tbl := tb_13 _ (List.mem_of_getElem? (i := 151) (by decide +kernel))
set_option maxRecDepth 100000 in
theorem lR12_15 : (.instanceMethod yX23_checkLoans : Cond) ∈ lw_tbl := tb_13 _ (List.mem_of_getElem? (i := 153) (by decide +kernel))
set_option maxRecDepth 100000 in
theorem lR12_16 : (.selects RX23 yX23_checkLoans yX23_checkLoans : Cond) ∈ lw_tbl := List.mem_append_left _ (List.mem_of_getElem? (i := 276) (by decide +kernel))
set_option maxRecDepth 100000 in
theorem lR12_17 : (.code yX23_node cX23_node 2 (some .int) : Cond) ∈ lw_tbl := tb_14 _ (List.mem_of_getElem? (i := 6) (by decide +kernel))
set_option maxRecDepth 100000 in
theorem lR12_18 : (.fieldLink RX23 971 "OwnedPlacesModel" "poolFree" "I" : Cond) ∈ lw_tbl := tb_8 _ (List.mem_of_getElem? (i := 228) (by decide +kernel))
set_option maxRecDepth 100000 in
theorem lR12_19 : (.fieldLink RX23 936 "OwnedPlacesModel" "next" "[I" : Cond) ∈ lw_tbl := tb_8 _ (List.mem_of_getElem? (i := 226) (by decide +kernel))
set_option maxRecDepth 100000 in
theorem lR12_20 : (.fieldLink RX23 974 "OwnedPlacesModel" "poolTop" "I" : Cond) ∈ lw_tbl := tb_8 _ (List.mem_of_getElem? (i := 227) (by decide +kernel))
set_option maxRecDepth 100000 in
theorem lR12_21 : (.fieldLink RX23 930 "OwnedPlacesModel" "worth" "[J" : Cond) ∈ lw_tbl := tb_8 _ (List.mem_of_getElem? (i := 224) (by decide +kernel))
set_option maxRecDepth 100000 in
theorem lR12_22 : (.fieldLink RX23 933 "OwnedPlacesModel" "has" "[Z" : Cond) ∈ lw_tbl := tb_8 _ (List.mem_of_getElem? (i := 225) (by decide +kernel))
set_option maxRecDepth 100000 in
theorem lR12_23 : (.code yX23_freeNode cX23_freeNode 2 none : Cond) ∈ lw_tbl := tb_14 _ (List.mem_of_getElem? (i := 10) (by decide +kernel))
set_option maxRecDepth 100000 in
theorem lR12_24 : (.code yX23_leavesOf cX23_leavesOf 2 (some .int) : Cond) ∈ lw_tbl := tb_13 _ (List.mem_of_getElem? (i := 230) (by decide +kernel))
set_option maxRecDepth 100000 in
theorem lR12_25 : (.code yX23_newPlace cX23_newPlace 6 (some .int) : Cond) ∈ lw_tbl := tb_14 _ (List.mem_of_getElem? (i := 2) (by decide +kernel))
set_option maxRecDepth 100000 in
theorem lR12_26 : (.methodLink RX23 977 yX23_node : Cond) ∈ lw_tbl := tb_14 _ (List.mem_of_getElem? (i := 3) (by decide +kernel))
set_option maxRecDepth 100000 in
theorem lR12_27 : (.instanceMethod yX23_node : Cond) ∈ lw_tbl := tb_14 _ (List.mem_of_getElem? (i := 5) (by decide +kernel))
set_option maxRecDepth 100000 in
theorem lR12_28 : (.selects RX23 yX23_node yX23_node : Cond) ∈ lw_tbl := List.mem_append_left _ (List.mem_of_getElem? (i := 298) (by decide +kernel))
set_option maxRecDepth 100000 in
theorem lR12_29 : (.methodLink RX23 980 yX23_leavesOf : Cond) ∈ lw_tbl := tb_13 _ (List.mem_of_getElem? (i := 227) (by decide +kernel))
set_option maxRecDepth 100000 in
theorem lR12_30 : (.instanceMethod yX23_leavesOf : Cond) ∈ lw_tbl := tb_13 _ (List.mem_of_getElem? (i := 229) (by decide +kernel))
set_option maxRecDepth 100000 in
theorem lR12_31 : (.selects RX23 yX23_leavesOf yX23_leavesOf : Cond) ∈ lw_tbl := List.mem_append_left _ (List.mem_of_getElem? (i := 294) (by decide +kernel))
set_option maxRecDepth 100000 in
theorem lR12_32 : (.code yX23_along cX23_along 5 (some .int) : Cond) ∈ lw_tbl := tb_13 _ (List.mem_of_getElem? (i := 234) (by decide +kernel))
set_option maxRecDepth 100000 in
theorem lR12_33 : (.code yX23_partOf cX23_partOf 6 (some .int) : Cond) ∈ lw_tbl := tb_13 _ (List.mem_of_getElem? (i := 226) (by decide +kernel))
set_option maxRecDepth 100000 in
theorem lR12_34 : (.methodLink RX23 983 yX23_along : Cond) ∈ lw_tbl := tb_13 _ (List.mem_of_getElem? (i := 231) (by decide +kernel))
set_option maxRecDepth 100000 in
theorem lR12_35 : (.instanceMethod yX23_along : Cond) ∈ lw_tbl := tb_13 _ (List.mem_of_getElem? (i := 233) (by decide +kernel))
set_option maxRecDepth 100000 in
theorem lR12_36 : (.selects RX23 yX23_along yX23_along : Cond) ∈ lw_tbl := List.mem_append_left _ (List.mem_of_getElem? (i := 295) (by decide +kernel))
set_option maxRecDepth 100000 in
theorem lR12_37 : (.code yX23_freePlace cX23_freePlace 6 none : Cond) ∈ lw_tbl := tb_14 _ (List.mem_of_getElem? (i := 98) (by decide +kernel))
set_option maxRecDepth 100000 in
theorem lR12_38 : (.methodLink RX23 986 yX23_freeNode : Cond) ∈ lw_tbl := tb_14 _ (List.mem_of_getElem? (i := 7) (by decide +kernel))
set_option maxRecDepth 100000 in
theorem lR12_39 : (.instanceMethod yX23_freeNode : Cond) ∈ lw_tbl := tb_14 _ (List.mem_of_getElem? (i := 9) (by decide +kernel))
set_option maxRecDepth 100000 in
theorem lR12_40 : (.selects RX23 yX23_freeNode yX23_freeNode : Cond) ∈ lw_tbl := List.mem_append_left _ (List.mem_of_getElem? (i := 299) (by decide +kernel))
set_option maxRecDepth 100000 in
theorem lR12_41 : (.code yX23_setPlace cX23_setPlace 9 none : Cond) ∈ lw_tbl := tb_14 _ (List.mem_of_getElem? (i := 106) (by decide +kernel))
set_option maxRecDepth 100000 in
theorem lR12_42 : (.code yX23_takePlace cX23_takePlace 7 (some .long) : Cond) ∈ lw_tbl := tb_13 _ (List.mem_of_getElem? (i := 238) (by decide +kernel))
set_option maxRecDepth 100000 in
theorem lR12_43 : (.methodLink RX23 989 yX23_newPlace : Cond) ∈ lw_tbl := tb_13 _ (List.mem_of_getElem? (i := 239) (by decide +kernel))
set_option maxRecDepth 100000 in
theorem lR12_44 : (.instanceMethod yX23_newPlace : Cond) ∈ lw_tbl := tb_14 _ (List.mem_of_getElem? (i := 1) (by decide +kernel))
set_option maxRecDepth 100000 in
theorem lR12_45 : (.selects RX23 yX23_newPlace yX23_newPlace : Cond) ∈ lw_tbl := List.mem_append_left _ (List.mem_of_getElem? (i := 297) (by decide +kernel))
set_option maxRecDepth 100000 in
theorem lR12_46 : (.code yX23_leaf cX23_leaf 4 (some .int) : Cond) ∈ lw_tbl := tb_14 _ (List.mem_of_getElem? (i := 51) (by decide +kernel))
set_option maxRecDepth 100000 in
theorem lR12_47 : (.code yX23_freshPlace cX23_freshPlace 4 (some .int) : Cond) ∈ lw_tbl := tb_14 _ (List.mem_of_getElem? (i := 47) (by decide +kernel))
set_option maxRecDepth 100000 in
theorem lR12_48 : (.methodLink RX23 992 yX23_leaf : Cond) ∈ lw_tbl := tb_14 _ (List.mem_of_getElem? (i := 48) (by decide +kernel))
set_option maxRecDepth 100000 in
theorem lR12_49 : (.instanceMethod yX23_leaf : Cond) ∈ lw_tbl := tb_14 _ (List.mem_of_getElem? (i := 50) (by decide +kernel))
set_option maxRecDepth 100000 in
theorem lR12_50 : (.selects RX23 yX23_leaf yX23_leaf : Cond) ∈ lw_tbl := List.mem_append_left _ (List.mem_of_getElem? (i := 309) (by decide +kernel))
set_option maxRecDepth 100000 in
theorem lR12_51 : (.code yX23_kidOf cX23_kidOf 2 (some .int) : Cond) ∈ lw_tbl := tb_13 _ (List.mem_of_getElem? (i := 221) (by decide +kernel))
set_option maxRecDepth 100000 in
theorem lR12_52 : (.constantLong RX23 995 1048575 : Cond) ∈ lw_tbl := tb_13 _ (List.mem_of_getElem? (i := 222) (by decide +kernel))
set_option maxRecDepth 100000 in
theorem lR12_53 : (.code yX23_variantOf_ cX23_variantOf_ 2 (some .int) : Cond) ∈ lw_tbl := tb_14 _ (List.mem_of_getElem? (i := 22) (by decide +kernel))
set_option maxRecDepth 100000 in
theorem lR12_54 : (.code yX23_blockLong cX23_blockLong 2 (some .int) : Cond) ∈ lw_tbl := tb_14 _ (List.mem_of_getElem? (i := 18) (by decide +kernel))
set_option maxRecDepth 100000 in
theorem lR12_55 : (.code yX23_findRoom cX23_findRoom 4 (some .int) : Cond) ∈ lw_tbl := tb_14 _ (List.mem_of_getElem? (i := 43) (by decide +kernel))
set_option maxRecDepth 100000 in
theorem lR12_56 : (.fieldLink RX23 968 "OwnedPlacesModel" "heapLong" "I" : Cond) ∈ lw_tbl := tb_8 _ (List.mem_of_getElem? (i := 229) (by decide +kernel))
set_option maxRecDepth 100000 in
theorem lR12_57 : (.fieldLink RX23 939 "OwnedPlacesModel" "taken" "[Z" : Cond) ∈ lw_tbl := tb_8 _ (List.mem_of_getElem? (i := 230) (by decide +kernel))
set_option maxRecDepth 100000 in
theorem lR12_58 : (.code yX23_freeBlock cX23_freeBlock 5 none : Cond) ∈ lw_tbl := tb_14 _ (List.mem_of_getElem? (i := 14) (by decide +kernel))
set_option maxRecDepth 100000 in
theorem lR12_59 : (.methodLink RX23 997 yX23_blockLong : Cond) ∈ lw_tbl := tb_14 _ (List.mem_of_getElem? (i := 15) (by decide +kernel))
theorem lR12 : ∀ w ∈ wC12, w ∈ lw_tbl := List.forall_mem_cons.mpr ⟨lR12_0, List.forall_mem_cons.mpr ⟨lR12_1, List.forall_mem_cons.mpr ⟨lR12_2, List.forall_mem_cons.mpr ⟨lR12_3, List.forall_mem_cons.mpr ⟨lR12_4, List.forall_mem_cons.mpr ⟨lR12_5, List.forall_mem_cons.mpr ⟨lR12_6, List.forall_mem_cons.mpr ⟨lR12_7, List.forall_mem_cons.mpr ⟨lR12_8, List.forall_mem_cons.mpr ⟨lR12_9, List.forall_mem_cons.mpr ⟨lR12_10, List.forall_mem_cons.mpr ⟨lR12_11, List.forall_mem_cons.mpr ⟨lR12_12, List.forall_mem_cons.mpr ⟨lR12_13, List.forall_mem_cons.mpr ⟨lR12_14, List.forall_mem_cons.mpr ⟨lR12_15, List.forall_mem_cons.mpr ⟨lR12_16, List.forall_mem_cons.mpr ⟨lR12_17, List.forall_mem_cons.mpr ⟨lR12_18, List.forall_mem_cons.mpr ⟨lR12_19, List.forall_mem_cons.mpr ⟨lR12_20, List.forall_mem_cons.mpr ⟨lR12_21, List.forall_mem_cons.mpr ⟨lR12_22, List.forall_mem_cons.mpr ⟨lR12_23, List.forall_mem_cons.mpr ⟨lR12_24, List.forall_mem_cons.mpr ⟨lR12_25, List.forall_mem_cons.mpr ⟨lR12_26, List.forall_mem_cons.mpr ⟨lR12_27, List.forall_mem_cons.mpr ⟨lR12_28, List.forall_mem_cons.mpr ⟨lR12_29, List.forall_mem_cons.mpr ⟨lR12_30, List.forall_mem_cons.mpr ⟨lR12_31, List.forall_mem_cons.mpr ⟨lR12_32, List.forall_mem_cons.mpr ⟨lR12_33, List.forall_mem_cons.mpr ⟨lR12_34, List.forall_mem_cons.mpr ⟨lR12_35, List.forall_mem_cons.mpr ⟨lR12_36, List.forall_mem_cons.mpr ⟨lR12_37, List.forall_mem_cons.mpr ⟨lR12_38, List.forall_mem_cons.mpr ⟨lR12_39, List.forall_mem_cons.mpr ⟨lR12_40, List.forall_mem_cons.mpr ⟨lR12_41, List.forall_mem_cons.mpr ⟨lR12_42, List.forall_mem_cons.mpr ⟨lR12_43, List.forall_mem_cons.mpr ⟨lR12_44, List.forall_mem_cons.mpr ⟨lR12_45, List.forall_mem_cons.mpr ⟨lR12_46, List.forall_mem_cons.mpr ⟨lR12_47, List.forall_mem_cons.mpr ⟨lR12_48, List.forall_mem_cons.mpr ⟨lR12_49, List.forall_mem_cons.mpr ⟨lR12_50, List.forall_mem_cons.mpr ⟨lR12_51, List.forall_mem_cons.mpr ⟨lR12_52, List.forall_mem_cons.mpr ⟨lR12_53, List.forall_mem_cons.mpr ⟨lR12_54, List.forall_mem_cons.mpr ⟨lR12_55, List.forall_mem_cons.mpr ⟨lR12_56, List.forall_mem_cons.mpr ⟨lR12_57, List.forall_mem_cons.mpr ⟨lR12_58, List.forall_mem_cons.mpr ⟨lR12_59, fun _ h => absurd h List.not_mem_nil⟩⟩⟩⟩⟩⟩⟩⟩⟩⟩⟩⟩⟩⟩⟩⟩⟩⟩⟩⟩⟩⟩⟩⟩⟩⟩⟩⟩⟩⟩⟩⟩⟩⟩⟩⟩⟩⟩⟩⟩⟩⟩⟩⟩⟩⟩⟩⟩⟩⟩⟩⟩⟩⟩⟩⟩⟩⟩⟩⟩
set_option maxRecDepth 100000 in
theorem lR13_0 : (.instanceMethod yX23_blockLong : Cond) ∈ lw_tbl := tb_14 _ (List.mem_of_getElem? (i := 17) (by decide +kernel))
set_option maxRecDepth 100000 in
theorem lR13_1 : (.selects RX23 yX23_blockLong yX23_blockLong : Cond) ∈ lw_tbl := List.mem_append_left _ (List.mem_of_getElem? (i := 301) (by decide +kernel))
set_option maxRecDepth 100000 in
theorem lR13_2 : (.methodLink RX23 1000 yX23_variantOf_ : Cond) ∈ lw_tbl := tb_14 _ (List.mem_of_getElem? (i := 19) (by decide +kernel))
set_option maxRecDepth 100000 in
theorem lR13_3 : (.instanceMethod yX23_variantOf_ : Cond) ∈ lw_tbl := tb_14 _ (List.mem_of_getElem? (i := 21) (by decide +kernel))
set_option maxRecDepth 100000 in
theorem lR13_4 : (.selects RX23 yX23_variantOf_ yX23_variantOf_ : Cond) ∈ lw_tbl := List.mem_append_left _ (List.mem_of_getElem? (i := 302) (by decide +kernel))
set_option maxRecDepth 100000 in
theorem lR13_5 : (.fieldLink RX23 1002 "OwnedPlacesModel" "inUse" "I" : Cond) ∈ lw_tbl := tb_8 _ (List.mem_of_getElem? (i := 231) (by decide +kernel))
set_option maxRecDepth 100000 in
theorem lR13_6 : (.code yX23_boxUp cX23_boxUp 5 none : Cond) ∈ lw_tbl := tb_14 _ (List.mem_of_getElem? (i := 39) (by decide +kernel))
set_option maxRecDepth 100000 in
theorem lR13_7 : (.methodLink RX23 1005 yX23_findRoom : Cond) ∈ lw_tbl := tb_14 _ (List.mem_of_getElem? (i := 40) (by decide +kernel))
set_option maxRecDepth 100000 in
theorem lR13_8 : (.instanceMethod yX23_findRoom : Cond) ∈ lw_tbl := tb_14 _ (List.mem_of_getElem? (i := 42) (by decide +kernel))
set_option maxRecDepth 100000 in
theorem lR13_9 : (.selects RX23 yX23_findRoom yX23_findRoom : Cond) ∈ lw_tbl := List.mem_append_left _ (List.mem_of_getElem? (i := 307) (by decide +kernel))
set_option maxRecDepth 100000 in
theorem lR13_10 : (.fieldLink RX23 1008 "OwnedPlacesModel" "most" "I" : Cond) ∈ lw_tbl := tb_8 _ (List.mem_of_getElem? (i := 232) (by decide +kernel))
set_option maxRecDepth 100000 in
theorem lR13_11 : (.methodLink RX23 1011 yX23_pop : Cond) ∈ lw_tbl := tb_14 _ (List.mem_of_getElem? (i := 27) (by decide +kernel))
set_option maxRecDepth 100000 in
theorem lR13_12 : (.instanceMethod yX23_pop : Cond) ∈ lw_tbl := tb_14 _ (List.mem_of_getElem? (i := 29) (by decide +kernel))
set_option maxRecDepth 100000 in
theorem lR13_13 : (.selects RX23 yX23_pop yX23_pop : Cond) ∈ lw_tbl := List.mem_append_left _ (List.mem_of_getElem? (i := 304) (by decide +kernel))
set_option maxRecDepth 100000 in
theorem lR13_14 : (.methodLink RX23 1015 yX23_freshPlace : Cond) ∈ lw_tbl := tb_14 _ (List.mem_of_getElem? (i := 44) (by decide +kernel))
set_option maxRecDepth 100000 in
theorem lR13_15 : (.instanceMethod yX23_freshPlace : Cond) ∈ lw_tbl := tb_14 _ (List.mem_of_getElem? (i := 46) (by decide +kernel))
set_option maxRecDepth 100000 in
theorem lR13_16 : (.selects RX23 yX23_freshPlace yX23_freshPlace : Cond) ∈ lw_tbl := List.mem_append_left _ (List.mem_of_getElem? (i := 308) (by decide +kernel))
set_option maxRecDepth 100000 in
theorem lR13_17 : (.methodLink RX23 1019 yX23_push : Cond) ∈ lw_tbl := tb_13 _ (List.mem_of_getElem? (i := 198) (by decide +kernel))
set_option maxRecDepth 100000 in
theorem lR13_18 : (.instanceMethod yX23_push : Cond) ∈ lw_tbl := tb_13 _ (List.mem_of_getElem? (i := 200) (by decide +kernel))
set_option maxRecDepth 100000 in
theorem lR13_19 : (.selects RX23 yX23_push yX23_push : Cond) ∈ lw_tbl := List.mem_append_left _ (List.mem_of_getElem? (i := 287) (by decide +kernel))
set_option maxRecDepth 100000 in
theorem lR13_20 : (.code yX23_later cX23_later 4 none : Cond) ∈ lw_tbl := tb_14 _ (List.mem_of_getElem? (i := 86) (by decide +kernel))
set_option maxRecDepth 100000 in
theorem lR13_21 : (.fieldLink RX23 951 "OwnedPlacesModel" "doWhat" "[I" : Cond) ∈ lw_tbl := tb_9 _ (List.mem_of_getElem? (i := 1) (by decide +kernel))
set_option maxRecDepth 100000 in
theorem lR13_22 : (.fieldLink RX23 1023 "OwnedPlacesModel" "doTop" "I" : Cond) ∈ lw_tbl := tb_9 _ (List.mem_of_getElem? (i := 4) (by decide +kernel))
set_option maxRecDepth 100000 in
theorem lR13_23 : (.fieldLink RX23 954 "OwnedPlacesModel" "doType" "[I" : Cond) ∈ lw_tbl := tb_9 _ (List.mem_of_getElem? (i := 2) (by decide +kernel))
set_option maxRecDepth 100000 in
theorem lR13_24 : (.fieldLink RX23 957 "OwnedPlacesModel" "doNode" "[I" : Cond) ∈ lw_tbl := tb_9 _ (List.mem_of_getElem? (i := 3) (by decide +kernel))
set_option maxRecDepth 100000 in
theorem lR13_25 : (.code yX23_laterParts cX23_laterParts 7 none : Cond) ∈ lw_tbl := tb_14 _ (List.mem_of_getElem? (i := 82) (by decide +kernel))
set_option maxRecDepth 100000 in
theorem lR13_26 : (.methodLink RX23 1026 yX23_partOf : Cond) ∈ lw_tbl := tb_13 _ (List.mem_of_getElem? (i := 223) (by decide +kernel))
set_option maxRecDepth 100000 in
theorem lR13_27 : (.instanceMethod yX23_partOf : Cond) ∈ lw_tbl := tb_13 _ (List.mem_of_getElem? (i := 225) (by decide +kernel))
set_option maxRecDepth 100000 in
theorem lR13_28 : (.selects RX23 yX23_partOf yX23_partOf : Cond) ∈ lw_tbl := List.mem_append_left _ (List.mem_of_getElem? (i := 293) (by decide +kernel))
set_option maxRecDepth 100000 in
theorem lR13_29 : (.methodLink RX23 1030 yX23_later : Cond) ∈ lw_tbl := tb_14 _ (List.mem_of_getElem? (i := 83) (by decide +kernel))
set_option maxRecDepth 100000 in
theorem lR13_30 : (.instanceMethod yX23_later : Cond) ∈ lw_tbl := tb_14 _ (List.mem_of_getElem? (i := 85) (by decide +kernel))
set_option maxRecDepth 100000 in
theorem lR13_31 : (.selects RX23 yX23_later yX23_later : Cond) ∈ lw_tbl := List.mem_append_left _ (List.mem_of_getElem? (i := 317) (by decide +kernel))
set_option maxRecDepth 100000 in
theorem lR13_32 : (.code yX23_dropValue cX23_dropValue 6 none : Cond) ∈ lw_tbl := tb_14 _ (List.mem_of_getElem? (i := 67) (by decide +kernel))
set_option maxRecDepth 100000 in
theorem lR13_33 : (.methodLink RX23 1034 yX23_write : Cond) ∈ lw_tbl := tb_14 _ (List.mem_of_getElem? (i := 68) (by decide +kernel))
set_option maxRecDepth 100000 in
theorem lR13_34 : (.instanceMethod yX23_write : Cond) ∈ lw_tbl := tb_14 _ (List.mem_of_getElem? (i := 70) (by decide +kernel))
set_option maxRecDepth 100000 in
theorem lR13_35 : (.selects RX23 yX23_write yX23_write : Cond) ∈ lw_tbl := List.mem_append_left _ (List.mem_of_getElem? (i := 314) (by decide +kernel))
set_option maxRecDepth 100000 in
theorem lR13_36 : (.methodLink RX23 1037 yX23_writeNumber : Cond) ∈ lw_tbl := tb_14 _ (List.mem_of_getElem? (i := 72) (by decide +kernel))
set_option maxRecDepth 100000 in
theorem lR13_37 : (.instanceMethod yX23_writeNumber : Cond) ∈ lw_tbl := tb_14 _ (List.mem_of_getElem? (i := 74) (by decide +kernel))
set_option maxRecDepth 100000 in
theorem lR13_38 : (.selects RX23 yX23_writeNumber yX23_writeNumber : Cond) ∈ lw_tbl := List.mem_append_left _ (List.mem_of_getElem? (i := 315) (by decide +kernel))
set_option maxRecDepth 100000 in
theorem lR13_39 : (.methodLink RX23 1040 yX23_laterParts : Cond) ∈ lw_tbl := tb_14 _ (List.mem_of_getElem? (i := 79) (by decide +kernel))
set_option maxRecDepth 100000 in
theorem lR13_40 : (.instanceMethod yX23_laterParts : Cond) ∈ lw_tbl := tb_14 _ (List.mem_of_getElem? (i := 81) (by decide +kernel))
set_option maxRecDepth 100000 in
theorem lR13_41 : (.selects RX23 yX23_laterParts yX23_laterParts : Cond) ∈ lw_tbl := List.mem_append_left _ (List.mem_of_getElem? (i := 316) (by decide +kernel))
set_option maxRecDepth 100000 in
theorem lR13_42 : (.methodLink RX23 1044 yX23_kidOf : Cond) ∈ lw_tbl := tb_13 _ (List.mem_of_getElem? (i := 218) (by decide +kernel))
set_option maxRecDepth 100000 in
theorem lR13_43 : (.instanceMethod yX23_kidOf : Cond) ∈ lw_tbl := tb_13 _ (List.mem_of_getElem? (i := 220) (by decide +kernel))
set_option maxRecDepth 100000 in
theorem lR13_44 : (.selects RX23 yX23_kidOf yX23_kidOf : Cond) ∈ lw_tbl := List.mem_append_left _ (List.mem_of_getElem? (i := 292) (by decide +kernel))
set_option maxRecDepth 100000 in
theorem lR13_45 : (.code yX23_dropPlace cX23_dropPlace 3 none : Cond) ∈ lw_tbl := tb_14 _ (List.mem_of_getElem? (i := 94) (by decide +kernel))
set_option maxRecDepth 100000 in
theorem lR13_46 : (.methodLink RX23 1047 yX23_dropValue : Cond) ∈ lw_tbl := tb_14 _ (List.mem_of_getElem? (i := 64) (by decide +kernel))
set_option maxRecDepth 100000 in
theorem lR13_47 : (.instanceMethod yX23_dropValue : Cond) ∈ lw_tbl := tb_14 _ (List.mem_of_getElem? (i := 66) (by decide +kernel))
set_option maxRecDepth 100000 in
theorem lR13_48 : (.selects RX23 yX23_dropValue yX23_dropValue : Cond) ∈ lw_tbl := List.mem_append_left _ (List.mem_of_getElem? (i := 313) (by decide +kernel))
set_option maxRecDepth 100000 in
theorem lR13_49 : (.code yX23_doAll cX23_doAll 3 none : Cond) ∈ lw_tbl := tb_14 _ (List.mem_of_getElem? (i := 90) (by decide +kernel))
set_option maxRecDepth 100000 in
theorem lR13_50 : (.methodLink RX23 1051 yX23_dropPlace : Cond) ∈ lw_tbl := tb_14 _ (List.mem_of_getElem? (i := 91) (by decide +kernel))
set_option maxRecDepth 100000 in
theorem lR13_51 : (.instanceMethod yX23_dropPlace : Cond) ∈ lw_tbl := tb_14 _ (List.mem_of_getElem? (i := 93) (by decide +kernel))
set_option maxRecDepth 100000 in
theorem lR13_52 : (.selects RX23 yX23_dropPlace yX23_dropPlace : Cond) ∈ lw_tbl := List.mem_append_left _ (List.mem_of_getElem? (i := 319) (by decide +kernel))
set_option maxRecDepth 100000 in
theorem lR13_53 : (.methodLink RX23 1055 yX23_freePlace : Cond) ∈ lw_tbl := tb_14 _ (List.mem_of_getElem? (i := 95) (by decide +kernel))
set_option maxRecDepth 100000 in
theorem lR13_54 : (.instanceMethod yX23_freePlace : Cond) ∈ lw_tbl := tb_14 _ (List.mem_of_getElem? (i := 97) (by decide +kernel))
set_option maxRecDepth 100000 in
theorem lR13_55 : (.selects RX23 yX23_freePlace yX23_freePlace : Cond) ∈ lw_tbl := List.mem_append_left _ (List.mem_of_getElem? (i := 320) (by decide +kernel))
set_option maxRecDepth 100000 in
theorem lR13_56 : (.methodLink RX23 1058 yX23_freeBlock : Cond) ∈ lw_tbl := tb_14 _ (List.mem_of_getElem? (i := 11) (by decide +kernel))
set_option maxRecDepth 100000 in
theorem lR13_57 : (.instanceMethod yX23_freeBlock : Cond) ∈ lw_tbl := tb_14 _ (List.mem_of_getElem? (i := 13) (by decide +kernel))
set_option maxRecDepth 100000 in
theorem lR13_58 : (.selects RX23 yX23_freeBlock yX23_freeBlock : Cond) ∈ lw_tbl := List.mem_append_left _ (List.mem_of_getElem? (i := 300) (by decide +kernel))
set_option maxRecDepth 100000 in
theorem lR13_59 : (.code yX23_write cX23_write 2 none : Cond) ∈ lw_tbl := tb_14 _ (List.mem_of_getElem? (i := 71) (by decide +kernel))
theorem lR13 : ∀ w ∈ wC13, w ∈ lw_tbl := List.forall_mem_cons.mpr ⟨lR13_0, List.forall_mem_cons.mpr ⟨lR13_1, List.forall_mem_cons.mpr ⟨lR13_2, List.forall_mem_cons.mpr ⟨lR13_3, List.forall_mem_cons.mpr ⟨lR13_4, List.forall_mem_cons.mpr ⟨lR13_5, List.forall_mem_cons.mpr ⟨lR13_6, List.forall_mem_cons.mpr ⟨lR13_7, List.forall_mem_cons.mpr ⟨lR13_8, List.forall_mem_cons.mpr ⟨lR13_9, List.forall_mem_cons.mpr ⟨lR13_10, List.forall_mem_cons.mpr ⟨lR13_11, List.forall_mem_cons.mpr ⟨lR13_12, List.forall_mem_cons.mpr ⟨lR13_13, List.forall_mem_cons.mpr ⟨lR13_14, List.forall_mem_cons.mpr ⟨lR13_15, List.forall_mem_cons.mpr ⟨lR13_16, List.forall_mem_cons.mpr ⟨lR13_17, List.forall_mem_cons.mpr ⟨lR13_18, List.forall_mem_cons.mpr ⟨lR13_19, List.forall_mem_cons.mpr ⟨lR13_20, List.forall_mem_cons.mpr ⟨lR13_21, List.forall_mem_cons.mpr ⟨lR13_22, List.forall_mem_cons.mpr ⟨lR13_23, List.forall_mem_cons.mpr ⟨lR13_24, List.forall_mem_cons.mpr ⟨lR13_25, List.forall_mem_cons.mpr ⟨lR13_26, List.forall_mem_cons.mpr ⟨lR13_27, List.forall_mem_cons.mpr ⟨lR13_28, List.forall_mem_cons.mpr ⟨lR13_29, List.forall_mem_cons.mpr ⟨lR13_30, List.forall_mem_cons.mpr ⟨lR13_31, List.forall_mem_cons.mpr ⟨lR13_32, List.forall_mem_cons.mpr ⟨lR13_33, List.forall_mem_cons.mpr ⟨lR13_34, List.forall_mem_cons.mpr ⟨lR13_35, List.forall_mem_cons.mpr ⟨lR13_36, List.forall_mem_cons.mpr ⟨lR13_37, List.forall_mem_cons.mpr ⟨lR13_38, List.forall_mem_cons.mpr ⟨lR13_39, List.forall_mem_cons.mpr ⟨lR13_40, List.forall_mem_cons.mpr ⟨lR13_41, List.forall_mem_cons.mpr ⟨lR13_42, List.forall_mem_cons.mpr ⟨lR13_43, List.forall_mem_cons.mpr ⟨lR13_44, List.forall_mem_cons.mpr ⟨lR13_45, List.forall_mem_cons.mpr ⟨lR13_46, List.forall_mem_cons.mpr ⟨lR13_47, List.forall_mem_cons.mpr ⟨lR13_48, List.forall_mem_cons.mpr ⟨lR13_49, List.forall_mem_cons.mpr ⟨lR13_50, List.forall_mem_cons.mpr ⟨lR13_51, List.forall_mem_cons.mpr ⟨lR13_52, List.forall_mem_cons.mpr ⟨lR13_53, List.forall_mem_cons.mpr ⟨lR13_54, List.forall_mem_cons.mpr ⟨lR13_55, List.forall_mem_cons.mpr ⟨lR13_56, List.forall_mem_cons.mpr ⟨lR13_57, List.forall_mem_cons.mpr ⟨lR13_58, List.forall_mem_cons.mpr ⟨lR13_59, fun _ h => absurd h List.not_mem_nil⟩⟩⟩⟩⟩⟩⟩⟩⟩⟩⟩⟩⟩⟩⟩⟩⟩⟩⟩⟩⟩⟩⟩⟩⟩⟩⟩⟩⟩⟩⟩⟩⟩⟩⟩⟩⟩⟩⟩⟩⟩⟩⟩⟩⟩⟩⟩⟩⟩⟩⟩⟩⟩⟩⟩⟩⟩⟩⟩⟩
set_option maxRecDepth 100000 in
theorem lR14_0 : (.fieldLink RX23 1061 "OwnedPlacesModel" "waitLong" "I" : Cond) ∈ lw_tbl := tb_9 _ (List.mem_of_getElem? (i := 7) (by decide +kernel))
set_option maxRecDepth 100000 in
theorem lR14_1 : (.fieldLink RX23 960 "OwnedPlacesModel" "waiting" "[I" : Cond) ∈ lw_tbl := tb_9 _ (List.mem_of_getElem? (i := 5) (by decide +kernel))
set_option maxRecDepth 100000 in
theorem lR14_2 : (.fieldLink RX23 1064 "OwnedPlacesModel" "waitFrom" "I" : Cond) ∈ lw_tbl := tb_9 _ (List.mem_of_getElem? (i := 6) (by decide +kernel))
set_option maxRecDepth 100000 in
theorem lR14_3 : (.code yX23_writeNumber cX23_writeNumber 9 none : Cond) ∈ lw_tbl := tb_14 _ (List.mem_of_getElem? (i := 75) (by decide +kernel))
set_option maxRecDepth 100000 in
theorem lR14_4 : (.constantLong RX23 1067 9 : Cond) ∈ lw_tbl := tb_14 _ (List.mem_of_getElem? (i := 76) (by decide +kernel))
set_option maxRecDepth 100000 in
theorem lR14_5 : (.constantLong RX23 1069 (-9) : Cond) ∈ lw_tbl := tb_14 _ (List.mem_of_getElem? (i := 77) (by decide +kernel))
set_option maxRecDepth 100000 in
theorem lR14_6 : (.constantLong RX23 46 10 : Cond) ∈ lw_tbl := tb_10 _ (List.mem_of_getElem? (i := 7) (by decide +kernel))
set_option maxRecDepth 100000 in
theorem lR14_7 : (.constantLong RX23 1071 48 : Cond) ∈ lw_tbl := tb_14 _ (List.mem_of_getElem? (i := 78) (by decide +kernel))
set_option maxRecDepth 100000 in
theorem lR14_8 : (.code yX23_writeWord cX23_writeWord 4 none : Cond) ∈ lw_tbl := tb_14 _ (List.mem_of_getElem? (i := 116) (by decide +kernel))
set_option maxRecDepth 100000 in
theorem lR14_9 : (.constantLong RX23 23 255 : Cond) ∈ lw_tbl := tb_9 _ (List.mem_of_getElem? (i := 237) (by decide +kernel))
set_option maxRecDepth 100000 in
theorem lR14_10 : (.code yX23_push cX23_push 3 none : Cond) ∈ lw_tbl := tb_13 _ (List.mem_of_getElem? (i := 201) (by decide +kernel))
set_option maxRecDepth 100000 in
theorem lR14_11 : (.fieldLink RX23 942 "OwnedPlacesModel" "stack" "[J" : Cond) ∈ lw_tbl := tb_8 _ (List.mem_of_getElem? (i := 235) (by decide +kernel))
set_option maxRecDepth 100000 in
theorem lR14_12 : (.fieldLink RX23 1073 "OwnedPlacesModel" "stackTop" "I" : Cond) ∈ lw_tbl := tb_8 _ (List.mem_of_getElem? (i := 236) (by decide +kernel))
set_option maxRecDepth 100000 in
theorem lR14_13 : (.code yX23_pop cX23_pop 1 (some .long) : Cond) ∈ lw_tbl := tb_14 _ (List.mem_of_getElem? (i := 30) (by decide +kernel))
set_option maxRecDepth 100000 in
theorem lR14_14 : (.code yX23_slot cX23_slot 2 (some .int) : Cond) ∈ lw_tbl := tb_13 _ (List.mem_of_getElem? (i := 217) (by decide +kernel))
set_option maxRecDepth 100000 in
theorem lR14_15 : (.fieldLink RX23 1076 "OwnedPlacesModel" "frames" "I" : Cond) ∈ lw_tbl := tb_8 _ (List.mem_of_getElem? (i := 239) (by decide +kernel))
set_option maxRecDepth 100000 in
theorem lR14_16 : (.code yX23_find cX23_find 7 (some .int) : Cond) ∈ lw_tbl := tb_13 _ (List.mem_of_getElem? (i := 213) (by decide +kernel))
set_option maxRecDepth 100000 in
theorem lR14_17 : (.fieldLink RX23 945 "OwnedPlacesModel" "place" "[I" : Cond) ∈ lw_tbl := tb_8 _ (List.mem_of_getElem? (i := 237) (by decide +kernel))
set_option maxRecDepth 100000 in
theorem lR14_18 : (.methodLink RX23 1079 yX23_slot : Cond) ∈ lw_tbl := tb_13 _ (List.mem_of_getElem? (i := 214) (by decide +kernel))
set_option maxRecDepth 100000 in
theorem lR14_19 : (.instanceMethod yX23_slot : Cond) ∈ lw_tbl := tb_13 _ (List.mem_of_getElem? (i := 216) (by decide +kernel))
set_option maxRecDepth 100000 in
theorem lR14_20 : (.selects RX23 yX23_slot yX23_slot : Cond) ∈ lw_tbl := List.mem_append_left _ (List.mem_of_getElem? (i := 291) (by decide +kernel))
set_option maxRecDepth 100000 in
theorem lR14_21 : (.code yX23_runRead cX23_runRead 6 none : Cond) ∈ lw_tbl := tb_13 _ (List.mem_of_getElem? (i := 209) (by decide +kernel))
set_option maxRecDepth 100000 in
theorem lR14_22 : (.methodLink RX23 1083 yX23_find : Cond) ∈ lw_tbl := tb_13 _ (List.mem_of_getElem? (i := 210) (by decide +kernel))
set_option maxRecDepth 100000 in
theorem lR14_23 : (.instanceMethod yX23_find : Cond) ∈ lw_tbl := tb_13 _ (List.mem_of_getElem? (i := 212) (by decide +kernel))
set_option maxRecDepth 100000 in
theorem lR14_24 : (.selects RX23 yX23_find yX23_find : Cond) ∈ lw_tbl := List.mem_append_left _ (List.mem_of_getElem? (i := 290) (by decide +kernel))
set_option maxRecDepth 100000 in
theorem lR14_25 : (.methodLink RX23 1087 yX23_takePlace : Cond) ∈ lw_tbl := tb_13 _ (List.mem_of_getElem? (i := 235) (by decide +kernel))
set_option maxRecDepth 100000 in
theorem lR14_26 : (.instanceMethod yX23_takePlace : Cond) ∈ lw_tbl := tb_13 _ (List.mem_of_getElem? (i := 237) (by decide +kernel))
set_option maxRecDepth 100000 in
theorem lR14_27 : (.selects RX23 yX23_takePlace yX23_takePlace : Cond) ∈ lw_tbl := List.mem_append_left _ (List.mem_of_getElem? (i := 296) (by decide +kernel))
set_option maxRecDepth 100000 in
theorem lR14_28 : (.code yX23_runSign cX23_runSign 9 none : Cond) ∈ lw_tbl := tb_14 _ (List.mem_of_getElem? (i := 26) (by decide +kernel))
set_option maxRecDepth 100000 in
theorem lR14_29 : (.constantLong RX23 1091 (-9223372036854775808) : Cond) ∈ lw_tbl := tb_14 _ (List.mem_of_getElem? (i := 31) (by decide +kernel))
set_option maxRecDepth 100000 in
theorem lR14_30 : (.code yX23_gather cX23_gather 10 (some .int) : Cond) ∈ lw_tbl := tb_14 _ (List.mem_of_getElem? (i := 59) (by decide +kernel))
set_option maxRecDepth 100000 in
theorem lR14_31 : (.code yX23_runCall cX23_runCall 5 none : Cond) ∈ lw_tbl := tb_14 _ (List.mem_of_getElem? (i := 63) (by decide +kernel))
set_option maxRecDepth 100000 in
theorem lR14_32 : (.fieldLink RX23 1093 "OwnedPlacesModel" "fuel" "I" : Cond) ∈ lw_tbl := tb_8 _ (List.mem_of_getElem? (i := 233) (by decide +kernel))
set_option maxRecDepth 100000 in
theorem lR14_33 : (.fieldLink RX23 947 "OwnedPlacesModel" "frameBack" "[I" : Cond) ∈ lw_tbl := tb_8 _ (List.mem_of_getElem? (i := 238) (by decide +kernel))
set_option maxRecDepth 100000 in
theorem lR14_34 : (.fieldLink RX23 1096 "OwnedPlacesModel" "now" "I" : Cond) ∈ lw_tbl := tb_9 _ (List.mem_of_getElem? (i := 0) (by decide +kernel))
set_option maxRecDepth 100000 in
theorem lR14_35 : (.code yX23_runAssign cX23_runAssign 7 none : Cond) ∈ lw_tbl := tb_14 _ (List.mem_of_getElem? (i := 102) (by decide +kernel))
set_option maxRecDepth 100000 in
theorem lR14_36 : (.methodLink RX23 1099 yX23_doAll : Cond) ∈ lw_tbl := tb_14 _ (List.mem_of_getElem? (i := 87) (by decide +kernel))
set_option maxRecDepth 100000 in
theorem lR14_37 : (.instanceMethod yX23_doAll : Cond) ∈ lw_tbl := tb_14 _ (List.mem_of_getElem? (i := 89) (by decide +kernel))
set_option maxRecDepth 100000 in
theorem lR14_38 : (.selects RX23 yX23_doAll yX23_doAll : Cond) ∈ lw_tbl := List.mem_append_left _ (List.mem_of_getElem? (i := 318) (by decide +kernel))
set_option maxRecDepth 100000 in
theorem lR14_39 : (.methodLink RX23 1102 yX23_setPlace : Cond) ∈ lw_tbl := tb_14 _ (List.mem_of_getElem? (i := 103) (by decide +kernel))
set_option maxRecDepth 100000 in
theorem lR14_40 : (.instanceMethod yX23_setPlace : Cond) ∈ lw_tbl := tb_14 _ (List.mem_of_getElem? (i := 105) (by decide +kernel))
set_option maxRecDepth 100000 in
theorem lR14_41 : (.selects RX23 yX23_setPlace yX23_setPlace : Cond) ∈ lw_tbl := List.mem_append_left _ (List.mem_of_getElem? (i := 322) (by decide +kernel))
set_option maxRecDepth 100000 in
theorem lR14_42 : (.code yX23_runBind cX23_runBind 5 none : Cond) ∈ lw_tbl := tb_14 _ (List.mem_of_getElem? (i := 124) (by decide +kernel))
set_option maxRecDepth 100000 in
theorem lR14_43 : (.code yX23_runOut cX23_runOut 3 none : Cond) ∈ lw_tbl := tb_14 _ (List.mem_of_getElem? (i := 128) (by decide +kernel))
set_option maxRecDepth 100000 in
theorem lR14_44 : (.code yX23_runPrint cX23_runPrint 4 none : Cond) ∈ lw_tbl := tb_14 _ (List.mem_of_getElem? (i := 110) (by decide +kernel))
set_option maxRecDepth 100000 in
theorem lR14_45 : (.constantLong RX23 1106 439721161573 : Cond) ∈ lw_tbl := tb_14 _ (List.mem_of_getElem? (i := 111) (by decide +kernel))
set_option maxRecDepth 100000 in
theorem lR14_46 : (.constantLong RX23 1108 1953658213 : Cond) ∈ lw_tbl := tb_14 _ (List.mem_of_getElem? (i := 112) (by decide +kernel))
set_option maxRecDepth 100000 in
theorem lR14_47 : (.methodLink RX23 1110 yX23_writeWord : Cond) ∈ lw_tbl := tb_14 _ (List.mem_of_getElem? (i := 113) (by decide +kernel))
set_option maxRecDepth 100000 in
theorem lR14_48 : (.instanceMethod yX23_writeWord : Cond) ∈ lw_tbl := tb_14 _ (List.mem_of_getElem? (i := 115) (by decide +kernel))
set_option maxRecDepth 100000 in
theorem lR14_49 : (.selects RX23 yX23_writeWord yX23_writeWord : Cond) ∈ lw_tbl := List.mem_append_left _ (List.mem_of_getElem? (i := 324) (by decide +kernel))
set_option maxRecDepth 100000 in
theorem lR14_50 : (.code yX23_runMatch cX23_runMatch 3 none : Cond) ∈ lw_tbl := tb_14 _ (List.mem_of_getElem? (i := 120) (by decide +kernel))
set_option maxRecDepth 100000 in
theorem lR14_51 : (.code yX23_nextInput cX23_nextInput 4 (some .long) : Cond) ∈ lw_tbl := tb_13 _ (List.mem_of_getElem? (i := 205) (by decide +kernel))
set_option maxRecDepth 100000 in
theorem lR14_52 : (.fieldLink RX23 1113 "OwnedPlacesModel" "inputMany" "I" : Cond) ∈ lw_tbl := tb_9 _ (List.mem_of_getElem? (i := 9) (by decide +kernel))
set_option maxRecDepth 100000 in
theorem lR14_53 : (.fieldLink RX23 963 "OwnedPlacesModel" "inputs" "[J" : Cond) ∈ lw_tbl := tb_9 _ (List.mem_of_getElem? (i := 8) (by decide +kernel))
set_option maxRecDepth 100000 in
theorem lR14_54 : (.code yX23_runMinus cX23_runMinus 3 none : Cond) ∈ lw_tbl := tb_14 _ (List.mem_of_getElem? (i := 35) (by decide +kernel))
set_option maxRecDepth 100000 in
theorem lR14_55 : (.code yX23_runMade cX23_runMade 5 none : Cond) ∈ lw_tbl := tb_14 _ (List.mem_of_getElem? (i := 55) (by decide +kernel))
set_option maxRecDepth 100000 in
theorem lR14_56 : (.methodLink RX23 1116 yX23_gather : Cond) ∈ lw_tbl := tb_14 _ (List.mem_of_getElem? (i := 56) (by decide +kernel))
set_option maxRecDepth 100000 in
theorem lR14_57 : (.instanceMethod yX23_gather : Cond) ∈ lw_tbl := tb_14 _ (List.mem_of_getElem? (i := 58) (by decide +kernel))
set_option maxRecDepth 100000 in
theorem lR14_58 : (.selects RX23 yX23_gather yX23_gather : Cond) ∈ lw_tbl := List.mem_append_left _ (List.mem_of_getElem? (i := 311) (by decide +kernel))
set_option maxRecDepth 100000 in
theorem lR14_59 : (.code yX23_burn cX23_burn 1 none : Cond) ∈ lw_tbl := tb_13 _ (List.mem_of_getElem? (i := 193) (by decide +kernel))
theorem lR14 : ∀ w ∈ wC14, w ∈ lw_tbl := List.forall_mem_cons.mpr ⟨lR14_0, List.forall_mem_cons.mpr ⟨lR14_1, List.forall_mem_cons.mpr ⟨lR14_2, List.forall_mem_cons.mpr ⟨lR14_3, List.forall_mem_cons.mpr ⟨lR14_4, List.forall_mem_cons.mpr ⟨lR14_5, List.forall_mem_cons.mpr ⟨lR14_6, List.forall_mem_cons.mpr ⟨lR14_7, List.forall_mem_cons.mpr ⟨lR14_8, List.forall_mem_cons.mpr ⟨lR14_9, List.forall_mem_cons.mpr ⟨lR14_10, List.forall_mem_cons.mpr ⟨lR14_11, List.forall_mem_cons.mpr ⟨lR14_12, List.forall_mem_cons.mpr ⟨lR14_13, List.forall_mem_cons.mpr ⟨lR14_14, List.forall_mem_cons.mpr ⟨lR14_15, List.forall_mem_cons.mpr ⟨lR14_16, List.forall_mem_cons.mpr ⟨lR14_17, List.forall_mem_cons.mpr ⟨lR14_18, List.forall_mem_cons.mpr ⟨lR14_19, List.forall_mem_cons.mpr ⟨lR14_20, List.forall_mem_cons.mpr ⟨lR14_21, List.forall_mem_cons.mpr ⟨lR14_22, List.forall_mem_cons.mpr ⟨lR14_23, List.forall_mem_cons.mpr ⟨lR14_24, List.forall_mem_cons.mpr ⟨lR14_25, List.forall_mem_cons.mpr ⟨lR14_26, List.forall_mem_cons.mpr ⟨lR14_27, List.forall_mem_cons.mpr ⟨lR14_28, List.forall_mem_cons.mpr ⟨lR14_29, List.forall_mem_cons.mpr ⟨lR14_30, List.forall_mem_cons.mpr ⟨lR14_31, List.forall_mem_cons.mpr ⟨lR14_32, List.forall_mem_cons.mpr ⟨lR14_33, List.forall_mem_cons.mpr ⟨lR14_34, List.forall_mem_cons.mpr ⟨lR14_35, List.forall_mem_cons.mpr ⟨lR14_36, List.forall_mem_cons.mpr ⟨lR14_37, List.forall_mem_cons.mpr ⟨lR14_38, List.forall_mem_cons.mpr ⟨lR14_39, List.forall_mem_cons.mpr ⟨lR14_40, List.forall_mem_cons.mpr ⟨lR14_41, List.forall_mem_cons.mpr ⟨lR14_42, List.forall_mem_cons.mpr ⟨lR14_43, List.forall_mem_cons.mpr ⟨lR14_44, List.forall_mem_cons.mpr ⟨lR14_45, List.forall_mem_cons.mpr ⟨lR14_46, List.forall_mem_cons.mpr ⟨lR14_47, List.forall_mem_cons.mpr ⟨lR14_48, List.forall_mem_cons.mpr ⟨lR14_49, List.forall_mem_cons.mpr ⟨lR14_50, List.forall_mem_cons.mpr ⟨lR14_51, List.forall_mem_cons.mpr ⟨lR14_52, List.forall_mem_cons.mpr ⟨lR14_53, List.forall_mem_cons.mpr ⟨lR14_54, List.forall_mem_cons.mpr ⟨lR14_55, List.forall_mem_cons.mpr ⟨lR14_56, List.forall_mem_cons.mpr ⟨lR14_57, List.forall_mem_cons.mpr ⟨lR14_58, List.forall_mem_cons.mpr ⟨lR14_59, fun _ h => absurd h List.not_mem_nil⟩⟩⟩⟩⟩⟩⟩⟩⟩⟩⟩⟩⟩⟩⟩⟩⟩⟩⟩⟩⟩⟩⟩⟩⟩⟩⟩⟩⟩⟩⟩⟩⟩⟩⟩⟩⟩⟩⟩⟩⟩⟩⟩⟩⟩⟩⟩⟩⟩⟩⟩⟩⟩⟩⟩⟩⟩⟩⟩⟩
set_option maxRecDepth 100000 in
theorem lR15_0 : (.code yX23_step cX23_step 2 none : Cond) ∈ lw_tbl := tb_13 _ (List.mem_of_getElem? (i := 197) (by decide +kernel))
set_option maxRecDepth 100000 in
theorem lR15_1 : (.methodLink RX23 1120 yX23_burn : Cond) ∈ lw_tbl := tb_13 _ (List.mem_of_getElem? (i := 190) (by decide +kernel))
set_option maxRecDepth 100000 in
theorem lR15_2 : (.instanceMethod yX23_burn : Cond) ∈ lw_tbl := tb_13 _ (List.mem_of_getElem? (i := 192) (by decide +kernel))
set_option maxRecDepth 100000 in
theorem lR15_3 : (.selects RX23 yX23_burn yX23_burn : Cond) ∈ lw_tbl := List.mem_append_left _ (List.mem_of_getElem? (i := 285) (by decide +kernel))
set_option maxRecDepth 100000 in
theorem lR15_4 : (.methodLink RX23 1123 yX23_nextInput : Cond) ∈ lw_tbl := tb_13 _ (List.mem_of_getElem? (i := 202) (by decide +kernel))
set_option maxRecDepth 100000 in
theorem lR15_5 : (.instanceMethod yX23_nextInput : Cond) ∈ lw_tbl := tb_13 _ (List.mem_of_getElem? (i := 204) (by decide +kernel))
set_option maxRecDepth 100000 in
theorem lR15_6 : (.selects RX23 yX23_nextInput yX23_nextInput : Cond) ∈ lw_tbl := List.mem_append_left _ (List.mem_of_getElem? (i := 288) (by decide +kernel))
set_option maxRecDepth 100000 in
theorem lR15_7 : (.methodLink RX23 1126 yX23_runRead : Cond) ∈ lw_tbl := tb_13 _ (List.mem_of_getElem? (i := 206) (by decide +kernel))
set_option maxRecDepth 100000 in
theorem lR15_8 : (.instanceMethod yX23_runRead : Cond) ∈ lw_tbl := tb_13 _ (List.mem_of_getElem? (i := 208) (by decide +kernel))
set_option maxRecDepth 100000 in
theorem lR15_9 : (.selects RX23 yX23_runRead yX23_runRead : Cond) ∈ lw_tbl := List.mem_append_left _ (List.mem_of_getElem? (i := 289) (by decide +kernel))
set_option maxRecDepth 100000 in
theorem lR15_10 : (.methodLink RX23 1129 yX23_runSign : Cond) ∈ lw_tbl := tb_14 _ (List.mem_of_getElem? (i := 23) (by decide +kernel))
set_option maxRecDepth 100000 in
theorem lR15_11 : (.instanceMethod yX23_runSign : Cond) ∈ lw_tbl := tb_14 _ (List.mem_of_getElem? (i := 25) (by decide +kernel))
set_option maxRecDepth 100000 in
theorem lR15_12 : (.selects RX23 yX23_runSign yX23_runSign : Cond) ∈ lw_tbl := List.mem_append_left _ (List.mem_of_getElem? (i := 303) (by decide +kernel))
set_option maxRecDepth 100000 in
theorem lR15_13 : (.methodLink RX23 1132 yX23_runMinus : Cond) ∈ lw_tbl := tb_14 _ (List.mem_of_getElem? (i := 32) (by decide +kernel))
set_option maxRecDepth 100000 in
theorem lR15_14 : (.instanceMethod yX23_runMinus : Cond) ∈ lw_tbl := tb_14 _ (List.mem_of_getElem? (i := 34) (by decide +kernel))
set_option maxRecDepth 100000 in
theorem lR15_15 : (.selects RX23 yX23_runMinus yX23_runMinus : Cond) ∈ lw_tbl := List.mem_append_left _ (List.mem_of_getElem? (i := 305) (by decide +kernel))
set_option maxRecDepth 100000 in
theorem lR15_16 : (.methodLink RX23 1135 yX23_boxUp : Cond) ∈ lw_tbl := tb_14 _ (List.mem_of_getElem? (i := 36) (by decide +kernel))
set_option maxRecDepth 100000 in
theorem lR15_17 : (.instanceMethod yX23_boxUp : Cond) ∈ lw_tbl := tb_14 _ (List.mem_of_getElem? (i := 38) (by decide +kernel))
set_option maxRecDepth 100000 in
theorem lR15_18 : (.selects RX23 yX23_boxUp yX23_boxUp : Cond) ∈ lw_tbl := List.mem_append_left _ (List.mem_of_getElem? (i := 306) (by decide +kernel))
set_option maxRecDepth 100000 in
theorem lR15_19 : (.methodLink RX23 1139 yX23_runMade : Cond) ∈ lw_tbl := tb_14 _ (List.mem_of_getElem? (i := 52) (by decide +kernel))
set_option maxRecDepth 100000 in
theorem lR15_20 : (.instanceMethod yX23_runMade : Cond) ∈ lw_tbl := tb_14 _ (List.mem_of_getElem? (i := 54) (by decide +kernel))
set_option maxRecDepth 100000 in
theorem lR15_21 : (.selects RX23 yX23_runMade yX23_runMade : Cond) ∈ lw_tbl := List.mem_append_left _ (List.mem_of_getElem? (i := 310) (by decide +kernel))
set_option maxRecDepth 100000 in
theorem lR15_22 : (.methodLink RX23 1142 yX23_runCall : Cond) ∈ lw_tbl := tb_14 _ (List.mem_of_getElem? (i := 60) (by decide +kernel))
set_option maxRecDepth 100000 in
theorem lR15_23 : (.instanceMethod yX23_runCall : Cond) ∈ lw_tbl := tb_14 _ (List.mem_of_getElem? (i := 62) (by decide +kernel))
set_option maxRecDepth 100000 in
theorem lR15_24 : (.selects RX23 yX23_runCall yX23_runCall : Cond) ∈ lw_tbl := List.mem_append_left _ (List.mem_of_getElem? (i := 312) (by decide +kernel))
set_option maxRecDepth 100000 in
theorem lR15_25 : (.methodLink RX23 1145 yX23_runAssign : Cond) ∈ lw_tbl := tb_14 _ (List.mem_of_getElem? (i := 99) (by decide +kernel))
set_option maxRecDepth 100000 in
theorem lR15_26 : (.instanceMethod yX23_runAssign : Cond) ∈ lw_tbl := tb_14 _ (List.mem_of_getElem? (i := 101) (by decide +kernel))
set_option maxRecDepth 100000 in
theorem lR15_27 : (.selects RX23 yX23_runAssign yX23_runAssign : Cond) ∈ lw_tbl := List.mem_append_left _ (List.mem_of_getElem? (i := 321) (by decide +kernel))
set_option maxRecDepth 100000 in
theorem lR15_28 : (.methodLink RX23 1148 yX23_runPrint : Cond) ∈ lw_tbl := tb_14 _ (List.mem_of_getElem? (i := 107) (by decide +kernel))
set_option maxRecDepth 100000 in
theorem lR15_29 : (.instanceMethod yX23_runPrint : Cond) ∈ lw_tbl := tb_14 _ (List.mem_of_getElem? (i := 109) (by decide +kernel))
set_option maxRecDepth 100000 in
theorem lR15_30 : (.selects RX23 yX23_runPrint yX23_runPrint : Cond) ∈ lw_tbl := List.mem_append_left _ (List.mem_of_getElem? (i := 323) (by decide +kernel))
set_option maxRecDepth 100000 in
theorem lR15_31 : (.methodLink RX23 1151 yX23_runMatch : Cond) ∈ lw_tbl := tb_14 _ (List.mem_of_getElem? (i := 117) (by decide +kernel))
set_option maxRecDepth 100000 in
theorem lR15_32 : (.instanceMethod yX23_runMatch : Cond) ∈ lw_tbl := tb_14 _ (List.mem_of_getElem? (i := 119) (by decide +kernel))
set_option maxRecDepth 100000 in
theorem lR15_33 : (.selects RX23 yX23_runMatch yX23_runMatch : Cond) ∈ lw_tbl := List.mem_append_left _ (List.mem_of_getElem? (i := 325) (by decide +kernel))
set_option maxRecDepth 100000 in
theorem lR15_34 : (.methodLink RX23 1154 yX23_runBind : Cond) ∈ lw_tbl := tb_14 _ (List.mem_of_getElem? (i := 121) (by decide +kernel))
set_option maxRecDepth 100000 in
theorem lR15_35 : (.instanceMethod yX23_runBind : Cond) ∈ lw_tbl := tb_14 _ (List.mem_of_getElem? (i := 123) (by decide +kernel))
set_option maxRecDepth 100000 in
theorem lR15_36 : (.selects RX23 yX23_runBind yX23_runBind : Cond) ∈ lw_tbl := List.mem_append_left _ (List.mem_of_getElem? (i := 326) (by decide +kernel))
set_option maxRecDepth 100000 in
theorem lR15_37 : (.methodLink RX23 1158 yX23_runOut : Cond) ∈ lw_tbl := tb_14 _ (List.mem_of_getElem? (i := 125) (by decide +kernel))
set_option maxRecDepth 100000 in
theorem lR15_38 : (.instanceMethod yX23_runOut : Cond) ∈ lw_tbl := tb_14 _ (List.mem_of_getElem? (i := 127) (by decide +kernel))
set_option maxRecDepth 100000 in
theorem lR15_39 : (.selects RX23 yX23_runOut yX23_runOut : Cond) ∈ lw_tbl := List.mem_append_left _ (List.mem_of_getElem? (i := 327) (by decide +kernel))
set_option maxRecDepth 100000 in
theorem lR15_40 : (.code yX23_runMain cX23_runMain 2 none : Cond) ∈ lw_tbl := tb_13 _ (List.mem_of_getElem? (i := 189) (by decide +kernel))
set_option maxRecDepth 100000 in
theorem lR15_41 : (.methodLink RX23 1161 yX23_step : Cond) ∈ lw_tbl := tb_13 _ (List.mem_of_getElem? (i := 194) (by decide +kernel))
set_option maxRecDepth 100000 in
theorem lR15_42 : (.instanceMethod yX23_step : Cond) ∈ lw_tbl := tb_13 _ (List.mem_of_getElem? (i := 196) (by decide +kernel))
set_option maxRecDepth 100000 in
theorem lR15_43 : (.selects RX23 yX23_step yX23_step : Cond) ∈ lw_tbl := List.mem_append_left _ (List.mem_of_getElem? (i := 286) (by decide +kernel))
set_option maxRecDepth 100000 in
theorem lR15_44 : (.code yX23_feedWord cX23_feedWord 3 none : Cond) ∈ lw_tbl := tb_9 _ (List.mem_of_getElem? (i := 197) (by decide +kernel))
set_option maxRecDepth 100000 in
theorem lR15_45 : (.fieldLink RX23 1167 "OwnedPlacesModel" "length" "I" : Cond) ∈ lw_tbl := tb_8 _ (List.mem_of_getElem? (i := 164) (by decide +kernel))
set_option maxRecDepth 100000 in
theorem lR15_46 : (.code yX23_feed cX23_feed 6 (some .boolean) : Cond) ∈ lw_tbl := tb_9 _ (List.mem_of_getElem? (i := 193) (by decide +kernel))
set_option maxRecDepth 100000 in
theorem lR15_47 : (.methodLink RX23 1170 yX23_feedWord : Cond) ∈ lw_tbl := tb_9 _ (List.mem_of_getElem? (i := 194) (by decide +kernel))
set_option maxRecDepth 100000 in
theorem lR15_48 : (.instanceMethod yX23_feedWord : Cond) ∈ lw_tbl := tb_9 _ (List.mem_of_getElem? (i := 196) (by decide +kernel))
set_option maxRecDepth 100000 in
theorem lR15_49 : (.selects RX23 yX23_feedWord yX23_feedWord : Cond) ∈ lw_tbl := List.mem_append_left _ (List.mem_of_getElem? (i := 148) (by decide +kernel))
set_option maxRecDepth 100000 in
theorem lR15_50 : (.code yX23_input cX23_input 3 (some .boolean) : Cond) ∈ lw_tbl := tb_9 _ (List.mem_of_getElem? (i := 201) (by decide +kernel))
set_option maxRecDepth 100000 in
theorem lR15_51 : (.code yX23_place_ cX23_place_ 1 (some .int) : Cond) ∈ lw_tbl := tb_14 _ (List.mem_of_getElem? (i := 132) (by decide +kernel))
set_option maxRecDepth 100000 in
theorem lR15_52 : (.fieldLink RX23 966 "OwnedPlacesModel" "told" "I" : Cond) ∈ lw_tbl := tb_9 _ (List.mem_of_getElem? (i := 10) (by decide +kernel))
set_option maxRecDepth 100000 in
theorem lR15_53 : (.code yX23_fetch cX23_fetch 5 (some .long) : Cond) ∈ lw_tbl := tb_14 _ (List.mem_of_getElem? (i := 136) (by decide +kernel))
set_option maxRecDepth 100000 in
theorem lR15_54 : (.code yX23_count cX23_count 2 (some .int) : Cond) ∈ lw_tbl := tb_14 _ (List.mem_of_getElem? (i := 140) (by decide +kernel))
set_option maxRecDepth 100000 in
theorem lR15_55 : (.fieldLink RX23 1188 "OwnedPlacesModel" "fuelLeft" "I" : Cond) ∈ lw_tbl := tb_8 _ (List.mem_of_getElem? (i := 234) (by decide +kernel))
set_option maxRecDepth 100000 in
theorem lR15_56 : (.code yX18_init cX18_init 2 none : Cond) ∈ lw_tbl := tb_13 _ (List.mem_of_getElem? (i := 3) (by decide +kernel))
set_option maxRecDepth 100000 in
theorem lR15_57 : (.methodLink RX18 1 objectInit : Cond) ∈ lw_tbl := tb_13 _ (List.mem_of_getElem? (i := 4) (by decide +kernel))
set_option maxRecDepth 100000 in
theorem lR15_58 : (.instanceMethod objectInit : Cond) ∈ lw_tbl := tb_1 _ (List.mem_of_getElem? (i := 38) (by decide +kernel))
set_option maxRecDepth 100000 in
theorem lR15_59 : (.code objectInit ⟨#[0xb1]⟩ 1 none : Cond) ∈ lw_tbl := tb_1 _ (List.mem_of_getElem? (i := 39) (by decide +kernel))
theorem lR15 : ∀ w ∈ wC15, w ∈ lw_tbl := List.forall_mem_cons.mpr ⟨lR15_0, List.forall_mem_cons.mpr ⟨lR15_1, List.forall_mem_cons.mpr ⟨lR15_2, List.forall_mem_cons.mpr ⟨lR15_3, List.forall_mem_cons.mpr ⟨lR15_4, List.forall_mem_cons.mpr ⟨lR15_5, List.forall_mem_cons.mpr ⟨lR15_6, List.forall_mem_cons.mpr ⟨lR15_7, List.forall_mem_cons.mpr ⟨lR15_8, List.forall_mem_cons.mpr ⟨lR15_9, List.forall_mem_cons.mpr ⟨lR15_10, List.forall_mem_cons.mpr ⟨lR15_11, List.forall_mem_cons.mpr ⟨lR15_12, List.forall_mem_cons.mpr ⟨lR15_13, List.forall_mem_cons.mpr ⟨lR15_14, List.forall_mem_cons.mpr ⟨lR15_15, List.forall_mem_cons.mpr ⟨lR15_16, List.forall_mem_cons.mpr ⟨lR15_17, List.forall_mem_cons.mpr ⟨lR15_18, List.forall_mem_cons.mpr ⟨lR15_19, List.forall_mem_cons.mpr ⟨lR15_20, List.forall_mem_cons.mpr ⟨lR15_21, List.forall_mem_cons.mpr ⟨lR15_22, List.forall_mem_cons.mpr ⟨lR15_23, List.forall_mem_cons.mpr ⟨lR15_24, List.forall_mem_cons.mpr ⟨lR15_25, List.forall_mem_cons.mpr ⟨lR15_26, List.forall_mem_cons.mpr ⟨lR15_27, List.forall_mem_cons.mpr ⟨lR15_28, List.forall_mem_cons.mpr ⟨lR15_29, List.forall_mem_cons.mpr ⟨lR15_30, List.forall_mem_cons.mpr ⟨lR15_31, List.forall_mem_cons.mpr ⟨lR15_32, List.forall_mem_cons.mpr ⟨lR15_33, List.forall_mem_cons.mpr ⟨lR15_34, List.forall_mem_cons.mpr ⟨lR15_35, List.forall_mem_cons.mpr ⟨lR15_36, List.forall_mem_cons.mpr ⟨lR15_37, List.forall_mem_cons.mpr ⟨lR15_38, List.forall_mem_cons.mpr ⟨lR15_39, List.forall_mem_cons.mpr ⟨lR15_40, List.forall_mem_cons.mpr ⟨lR15_41, List.forall_mem_cons.mpr ⟨lR15_42, List.forall_mem_cons.mpr ⟨lR15_43, List.forall_mem_cons.mpr ⟨lR15_44, List.forall_mem_cons.mpr ⟨lR15_45, List.forall_mem_cons.mpr ⟨lR15_46, List.forall_mem_cons.mpr ⟨lR15_47, List.forall_mem_cons.mpr ⟨lR15_48, List.forall_mem_cons.mpr ⟨lR15_49, List.forall_mem_cons.mpr ⟨lR15_50, List.forall_mem_cons.mpr ⟨lR15_51, List.forall_mem_cons.mpr ⟨lR15_52, List.forall_mem_cons.mpr ⟨lR15_53, List.forall_mem_cons.mpr ⟨lR15_54, List.forall_mem_cons.mpr ⟨lR15_55, List.forall_mem_cons.mpr ⟨lR15_56, List.forall_mem_cons.mpr ⟨lR15_57, List.forall_mem_cons.mpr ⟨lR15_58, List.forall_mem_cons.mpr ⟨lR15_59, fun _ h => absurd h List.not_mem_nil⟩⟩⟩⟩⟩⟩⟩⟩⟩⟩⟩⟩⟩⟩⟩⟩⟩⟩⟩⟩⟩⟩⟩⟩⟩⟩⟩⟩⟩⟩⟩⟩⟩⟩⟩⟩⟩⟩⟩⟩⟩⟩⟩⟩⟩⟩⟩⟩⟩⟩⟩⟩⟩⟩⟩⟩⟩⟩⟩⟩
set_option maxRecDepth 100000 in
theorem lR16_0 : (.fieldLink RX18 7 "OwnedPlacesModel$Path" "many" "I" : Cond) ∈ lw_tbl := tb_13 _ (List.mem_of_getElem? (i := 7) (by decide +kernel))
set_option maxRecDepth 100000 in
theorem lR16_1 : (.fieldLink RX18 13 "OwnedPlacesModel$Path" "steps" "[I" : Cond) ∈ lw_tbl := tb_13 _ (List.mem_of_getElem? (i := 9) (by decide +kernel))
set_option maxRecDepth 100000 in
theorem lR16_2 : (.classLink RX18 17 RX20 : Cond) ∈ lw_tbl := tb_13 _ (List.mem_of_getElem? (i := 5) (by decide +kernel))
set_option maxRecDepth 100000 in
theorem lR16_3 : (.fieldLink RX18 19 "OwnedPlacesModel$Path" "types" "[LOwnedPlacesModel$Type;" : Cond) ∈ lw_tbl := tb_13 _ (List.mem_of_getElem? (i := 11) (by decide +kernel))
set_option maxRecDepth 100000 in
theorem lR16_4 : (.code yX18_type cX18_type 1 (some (.object "OwnedPlacesModel$Type")) : Cond) ∈ lw_tbl := tb_13 _ (List.mem_of_getElem? (i := 25) (by decide +kernel))
set_option maxRecDepth 100000 in
theorem lR16_5 : (.code yX20_init cX20_init 1 none : Cond) ∈ lw_tbl := tb_11 _ (List.mem_of_getElem? (i := 220) (by decide +kernel))
set_option maxRecDepth 100000 in
theorem lR16_6 : (.methodLink RX20 1 objectInit : Cond) ∈ lw_tbl := tb_11 _ (List.mem_of_getElem? (i := 221) (by decide +kernel))
set_option maxRecDepth 100000 in
theorem lR16_7 : (.code yX21_init cX21_init 1 none : Cond) ∈ lw_tbl := tb_12 _ (List.mem_of_getElem? (i := 53) (by decide +kernel))
set_option maxRecDepth 100000 in
theorem lR16_8 : (.methodLink RX21 1 objectInit : Cond) ∈ lw_tbl := tb_12 _ (List.mem_of_getElem? (i := 54) (by decide +kernel))
set_option maxRecDepth 100000 in
theorem lR16_9 : (.code yX13_init cX13_init 1 none : Cond) ∈ lw_tbl := tb_11 _ (List.mem_of_getElem? (i := 132) (by decide +kernel))
set_option maxRecDepth 100000 in
theorem lR16_10 : (.methodLink RX13 1 objectInit : Cond) ∈ lw_tbl := tb_11 _ (List.mem_of_getElem? (i := 133) (by decide +kernel))
set_option maxRecDepth 100000 in
theorem lR16_11 : (.fieldLink RX13 7 "OwnedPlacesModel$Arm" "names" "[I" : Cond) ∈ lw_tbl := tb_11 _ (List.mem_of_getElem? (i := 137) (by decide +kernel))
set_option maxRecDepth 100000 in
theorem lR16_12 : (.classLink RX13 13 RX21 : Cond) ∈ lw_tbl := tb_11 _ (List.mem_of_getElem? (i := 134) (by decide +kernel))
set_option maxRecDepth 100000 in
theorem lR16_13 : (.fieldLink RX13 15 "OwnedPlacesModel$Arm" "variables" "[LOwnedPlacesModel$Variable;" : Cond) ∈ lw_tbl := tb_11 _ (List.mem_of_getElem? (i := 140) (by decide +kernel))
set_option maxRecDepth 100000 in
theorem lR16_14 : (.code yX14_init cX14_init 1 none : Cond) ∈ lw_tbl := tb_10 _ (List.mem_of_getElem? (i := 175) (by decide +kernel))
set_option maxRecDepth 100000 in
theorem lR16_15 : (.methodLink RX14 1 objectInit : Cond) ∈ lw_tbl := tb_10 _ (List.mem_of_getElem? (i := 176) (by decide +kernel))
set_option maxRecDepth 100000 in
theorem lR16_16 : (.classLink RX14 7 RX19 : Cond) ∈ lw_tbl := tb_10 _ (List.mem_of_getElem? (i := 177) (by decide +kernel))
set_option maxRecDepth 100000 in
theorem lR16_17 : (.fieldLink RX14 9 "OwnedPlacesModel$Block" "list" "[LOwnedPlacesModel$Statement;" : Cond) ∈ lw_tbl := tb_10 _ (List.mem_of_getElem? (i := 181) (by decide +kernel))
set_option maxRecDepth 100000 in
theorem lR16_18 : (.code yX15_init cX15_init 1 none : Cond) ∈ lw_tbl := tb_11 _ (List.mem_of_getElem? (i := 30) (by decide +kernel))
set_option maxRecDepth 100000 in
theorem lR16_19 : (.methodLink RX15 1 objectInit : Cond) ∈ lw_tbl := tb_11 _ (List.mem_of_getElem? (i := 31) (by decide +kernel))
set_option maxRecDepth 100000 in
theorem lR16_20 : (.code yX16_init cX16_init 1 none : Cond) ∈ lw_tbl := tb_10 _ (List.mem_of_getElem? (i := 37) (by decide +kernel))
set_option maxRecDepth 100000 in
theorem lR16_21 : (.methodLink RX16 1 objectInit : Cond) ∈ lw_tbl := tb_10 _ (List.mem_of_getElem? (i := 38) (by decide +kernel))
set_option maxRecDepth 100000 in
theorem lR16_22 : (.fieldLink RX16 7 "OwnedPlacesModel$Item" "names" "[I" : Cond) ∈ lw_tbl := tb_10 _ (List.mem_of_getElem? (i := 47) (by decide +kernel))
set_option maxRecDepth 100000 in
theorem lR16_23 : (.code yX17_init cX17_init 1 none : Cond) ∈ lw_tbl := tb_11 _ (List.mem_of_getElem? (i := 173) (by decide +kernel))
set_option maxRecDepth 100000 in
theorem lR16_24 : (.methodLink RX17 1 objectInit : Cond) ∈ lw_tbl := tb_11 _ (List.mem_of_getElem? (i := 174) (by decide +kernel))
set_option maxRecDepth 100000 in
theorem lR16_25 : (.code yX19_init cX19_init 1 none : Cond) ∈ lw_tbl := tb_10 _ (List.mem_of_getElem? (i := 201) (by decide +kernel))
set_option maxRecDepth 100000 in
theorem lR16_26 : (.methodLink RX19 1 objectInit : Cond) ∈ lw_tbl := tb_10 _ (List.mem_of_getElem? (i := 202) (by decide +kernel))
set_option maxRecDepth 100000 in
theorem lR16_27 : (.code yX22_init cX22_init 1 none : Cond) ∈ lw_tbl := tb_10 _ (List.mem_of_getElem? (i := 144) (by decide +kernel))
set_option maxRecDepth 100000 in
theorem lR16_28 : (.methodLink RX22 1 objectInit : Cond) ∈ lw_tbl := tb_10 _ (List.mem_of_getElem? (i := 145) (by decide +kernel))
set_option maxRecDepth 100000 in
theorem lR16_29 : (.fieldLink RX22 7 "OwnedPlacesModel$Written" "life" "I" : Cond) ∈ lw_tbl := tb_10 _ (List.mem_of_getElem? (i := 149) (by decide +kernel))
set_option maxRecDepth 100000 in
theorem lR16_30 : (.code yX23_run cX23_run 3 (some .int) : Cond) ∈ lw_tbl := tb_9 _ (List.mem_of_getElem? (i := 205) (by decide +kernel))
set_option maxRecDepth 100000 in
theorem lR16_31 : (.fieldLink RX23 1 "OwnedPlacesModel" "size" "I" : Cond) ∈ lw_tbl := tb_8 _ (List.mem_of_getElem? (i := 165) (by decide +kernel))
set_option maxRecDepth 100000 in
theorem lR16_32 : (.methodLink RX23 1173 yX23_scan : Cond) ∈ lw_tbl := tb_9 _ (List.mem_of_getElem? (i := 206) (by decide +kernel))
set_option maxRecDepth 100000 in
theorem lR16_33 : (.instanceMethod yX23_scan : Cond) ∈ lw_tbl := tb_9 _ (List.mem_of_getElem? (i := 208) (by decide +kernel))
set_option maxRecDepth 100000 in
theorem lR16_34 : (.selects RX23 yX23_scan yX23_scan : Cond) ∈ lw_tbl := List.mem_append_left _ (List.mem_of_getElem? (i := 149) (by decide +kernel))
set_option maxRecDepth 100000 in
theorem lR16_35 : (.methodLink RX23 1176 yX23_program : Cond) ∈ lw_tbl := tb_10 _ (List.mem_of_getElem? (i := 18) (by decide +kernel))
set_option maxRecDepth 100000 in
theorem lR16_36 : (.instanceMethod yX23_program : Cond) ∈ lw_tbl := tb_10 _ (List.mem_of_getElem? (i := 20) (by decide +kernel))
set_option maxRecDepth 100000 in
theorem lR16_37 : (.selects RX23 yX23_program yX23_program : Cond) ∈ lw_tbl := List.mem_append_left _ (List.mem_of_getElem? (i := 157) (by decide +kernel))
set_option maxRecDepth 100000 in
theorem lR16_38 : (.methodLink RX23 1179 yX23_typeAll : Cond) ∈ lw_tbl := tb_11 _ (List.mem_of_getElem? (i := 185) (by decide +kernel))
set_option maxRecDepth 100000 in
theorem lR16_39 : (.instanceMethod yX23_typeAll : Cond) ∈ lw_tbl := tb_11 _ (List.mem_of_getElem? (i := 187) (by decide +kernel))
set_option maxRecDepth 100000 in
theorem lR16_40 : (.selects RX23 yX23_typeAll yX23_typeAll : Cond) ∈ lw_tbl := List.mem_append_left _ (List.mem_of_getElem? (i := 190) (by decide +kernel))
set_option maxRecDepth 100000 in
theorem lR16_41 : (.methodLink RX23 1182 yX23_layAll : Cond) ∈ lw_tbl := tb_12 _ (List.mem_of_getElem? (i := 193) (by decide +kernel))
set_option maxRecDepth 100000 in
theorem lR16_42 : (.instanceMethod yX23_layAll : Cond) ∈ lw_tbl := tb_12 _ (List.mem_of_getElem? (i := 195) (by decide +kernel))
set_option maxRecDepth 100000 in
theorem lR16_43 : (.selects RX23 yX23_layAll yX23_layAll : Cond) ∈ lw_tbl := List.mem_append_left _ (List.mem_of_getElem? (i := 237) (by decide +kernel))
set_option maxRecDepth 100000 in
theorem lR16_44 : (.methodLink RX23 1185 yX23_runMain : Cond) ∈ lw_tbl := tb_13 _ (List.mem_of_getElem? (i := 186) (by decide +kernel))
set_option maxRecDepth 100000 in
theorem lR16_45 : (.instanceMethod yX23_runMain : Cond) ∈ lw_tbl := tb_13 _ (List.mem_of_getElem? (i := 188) (by decide +kernel))
set_option maxRecDepth 100000 in
theorem lR16_46 : (.selects RX23 yX23_runMain yX23_runMain : Cond) ∈ lw_tbl := List.mem_append_left _ (List.mem_of_getElem? (i := 284) (by decide +kernel))
theorem lR16 : ∀ w ∈ wC16, w ∈ lw_tbl := List.forall_mem_cons.mpr ⟨lR16_0, List.forall_mem_cons.mpr ⟨lR16_1, List.forall_mem_cons.mpr ⟨lR16_2, List.forall_mem_cons.mpr ⟨lR16_3, List.forall_mem_cons.mpr ⟨lR16_4, List.forall_mem_cons.mpr ⟨lR16_5, List.forall_mem_cons.mpr ⟨lR16_6, List.forall_mem_cons.mpr ⟨lR16_7, List.forall_mem_cons.mpr ⟨lR16_8, List.forall_mem_cons.mpr ⟨lR16_9, List.forall_mem_cons.mpr ⟨lR16_10, List.forall_mem_cons.mpr ⟨lR16_11, List.forall_mem_cons.mpr ⟨lR16_12, List.forall_mem_cons.mpr ⟨lR16_13, List.forall_mem_cons.mpr ⟨lR16_14, List.forall_mem_cons.mpr ⟨lR16_15, List.forall_mem_cons.mpr ⟨lR16_16, List.forall_mem_cons.mpr ⟨lR16_17, List.forall_mem_cons.mpr ⟨lR16_18, List.forall_mem_cons.mpr ⟨lR16_19, List.forall_mem_cons.mpr ⟨lR16_20, List.forall_mem_cons.mpr ⟨lR16_21, List.forall_mem_cons.mpr ⟨lR16_22, List.forall_mem_cons.mpr ⟨lR16_23, List.forall_mem_cons.mpr ⟨lR16_24, List.forall_mem_cons.mpr ⟨lR16_25, List.forall_mem_cons.mpr ⟨lR16_26, List.forall_mem_cons.mpr ⟨lR16_27, List.forall_mem_cons.mpr ⟨lR16_28, List.forall_mem_cons.mpr ⟨lR16_29, List.forall_mem_cons.mpr ⟨lR16_30, List.forall_mem_cons.mpr ⟨lR16_31, List.forall_mem_cons.mpr ⟨lR16_32, List.forall_mem_cons.mpr ⟨lR16_33, List.forall_mem_cons.mpr ⟨lR16_34, List.forall_mem_cons.mpr ⟨lR16_35, List.forall_mem_cons.mpr ⟨lR16_36, List.forall_mem_cons.mpr ⟨lR16_37, List.forall_mem_cons.mpr ⟨lR16_38, List.forall_mem_cons.mpr ⟨lR16_39, List.forall_mem_cons.mpr ⟨lR16_40, List.forall_mem_cons.mpr ⟨lR16_41, List.forall_mem_cons.mpr ⟨lR16_42, List.forall_mem_cons.mpr ⟨lR16_43, List.forall_mem_cons.mpr ⟨lR16_44, List.forall_mem_cons.mpr ⟨lR16_45, List.forall_mem_cons.mpr ⟨lR16_46, fun _ h => absurd h List.not_mem_nil⟩⟩⟩⟩⟩⟩⟩⟩⟩⟩⟩⟩⟩⟩⟩⟩⟩⟩⟩⟩⟩⟩⟩⟩⟩⟩⟩⟩⟩⟩⟩⟩⟩⟩⟩⟩⟩⟩⟩⟩⟩⟩⟩⟩⟩⟩⟩
set_option maxRecDepth 100000 in
theorem lin_X13 : GoodIn lw_tbl wsX130 := goodIn_r wsX130 [2871, 2873, 2875, 2877, 2879, 2881] (by decide +kernel) gd_X13
set_option maxRecDepth 100000 in
theorem lin_X14 : GoodIn lw_tbl wsX140 := goodIn_r wsX140 [2672, 2674, 2676, 2678] (by decide +kernel) gd_X14
set_option maxRecDepth 100000 in
theorem lin_X15 : GoodIn lw_tbl wsX150 := goodIn_r wsX150 [2774, 2776, 2778, 2780, 2782, 2784, 2786, 2788, 2790, 2792, 2794, 2796, 2798, 2800] (by decide +kernel) gd_X15
set_option maxRecDepth 100000 in
theorem lin_X16 : GoodIn lw_tbl wsX160 := goodIn_r wsX160 [2550, 2552, 2554, 2556, 2558, 2560, 2562, 2564, 2566, 2568, 2570, 2572, 2574, 2576, 2578, 2580, 2582, 2584, 2586, 2588, 2590, 2592] (by decide +kernel) gd_X16
set_option maxRecDepth 100000 in
theorem lin_X17 : GoodIn lw_tbl wsX170 := goodIn_r wsX170 [2906, 2908, 2910] (by decide +kernel) gd_X17
set_option maxRecDepth 100000 in
theorem lin_X18 : GoodIn lw_tbl wsX180 := goodIn_r wsX180 [3221, 3223, 3225, 3227] (by decide +kernel) gd_X18
set_option maxRecDepth 100000 in
theorem lin_X19 : GoodIn lw_tbl wsX190 := goodIn_r wsX190 [2705, 2707, 2709, 2711, 2713, 2715, 2717, 2719, 2721, 2723, 2725, 2727, 2729, 2731] (by decide +kernel) gd_X19
set_option maxRecDepth 100000 in
theorem lin_X20 : GoodIn lw_tbl wsX200 := goodIn_r wsX200 [2954, 2956, 2958, 2960] (by decide +kernel) gd_X20
set_option maxRecDepth 100000 in
theorem lin_X21 : GoodIn lw_tbl wsX210 := goodIn_r wsX210 [3028, 3030, 3032, 3034, 3036] (by decide +kernel) gd_X21
set_option maxRecDepth 100000 in
theorem lin_X22 : GoodIn lw_tbl wsX220 := goodIn_r wsX220 [2640, 2642, 2644, 2646, 2648] (by decide +kernel) gd_X22
set_option maxRecDepth 100000 in
theorem lin_X23 : GoodIn lw_tbl wsX230 := goodIn_r wsX230 [2259, 2261, 2263, 2265, 2267, 2269, 2271, 2273, 2275, 2277, 2279, 2281, 2283, 2285, 2287, 2289, 2291, 2293, 2295, 2297, 2299, 2301, 2303, 2305, 2307, 2309, 2311, 2313, 2315, 2317, 2319, 2321, 2323, 2325, 2327, 2329, 2331, 2333, 2335, 2337, 2339, 2341, 2343, 2345, 2347, 2349, 2351, 2353, 2355, 2357, 2359, 2361, 2363, 2365, 2367, 2369, 2371, 2373, 2375, 2377, 2379, 2381, 2383, 2385, 2387, 2389, 2391, 2393, 2395, 2397, 2399, 2401, 2403, 2405, 2407, 2409, 2411, 2413, 2415, 2417, 2419, 2421, 2423, 2425, 2427, 2429, 2431, 2433, 2435] (by decide +kernel) gd_X23
theorem lRT : ∀ w ∈ wT0, w ∈ lw_tbl := List.forall_mem_append.mpr ⟨fun w h => (lin_X13 w h).1, List.forall_mem_append.mpr ⟨fun w h => (lin_X14 w h).1, List.forall_mem_append.mpr ⟨fun w h => (lin_X15 w h).1, List.forall_mem_append.mpr ⟨fun w h => (lin_X16 w h).1, List.forall_mem_append.mpr ⟨fun w h => (lin_X17 w h).1, List.forall_mem_append.mpr ⟨fun w h => (lin_X18 w h).1, List.forall_mem_append.mpr ⟨fun w h => (lin_X19 w h).1, List.forall_mem_append.mpr ⟨fun w h => (lin_X20 w h).1, List.forall_mem_append.mpr ⟨fun w h => (lin_X21 w h).1, List.forall_mem_append.mpr ⟨fun w h => (lin_X22 w h).1, List.forall_mem_append.mpr ⟨fun w h => (lin_X23 w h).1, fun _ h => absurd h List.not_mem_nil⟩⟩⟩⟩⟩⟩⟩⟩⟩⟩⟩
theorem lR_in : ∀ w ∈ wR, w ∈ lw_tbl := List.forall_mem_append.mpr ⟨lR0, List.forall_mem_append.mpr ⟨lR1, List.forall_mem_append.mpr ⟨lR2, List.forall_mem_append.mpr ⟨lR3, List.forall_mem_append.mpr ⟨lR4, List.forall_mem_append.mpr ⟨lR5, List.forall_mem_append.mpr ⟨lR6, List.forall_mem_append.mpr ⟨lR7, List.forall_mem_append.mpr ⟨lR8, List.forall_mem_append.mpr ⟨lR9, List.forall_mem_append.mpr ⟨lR10, List.forall_mem_append.mpr ⟨lR11, List.forall_mem_append.mpr ⟨lR12, List.forall_mem_append.mpr ⟨lR13, List.forall_mem_append.mpr ⟨lR14, List.forall_mem_append.mpr ⟨lR15, List.forall_mem_append.mpr ⟨lR16, lRT⟩⟩⟩⟩⟩⟩⟩⟩⟩⟩⟩⟩⟩⟩⟩⟩⟩
theorem lR_gd : GoodIn lw_tbl wR := fun w h => ⟨lR_in w h, (gd_R w h).2⟩
