set_option maxRecDepth 100000 in
theorem lm_0 : (.instantiable RX0 18 : Cond) ∈ lw_tbl := tb_2 _ (List.mem_of_getElem? (i := 220) (by decide +kernel))
set_option maxRecDepth 100000 in
theorem lm_1 : (.instantiable RX1 8 : Cond) ∈ lw_tbl := tb_2 _ (List.mem_of_getElem? (i := 63) (by decide +kernel))
set_option maxRecDepth 100000 in
theorem lm_2 : (.instantiable RX2 22 : Cond) ∈ lw_tbl := tb_2 _ (List.mem_of_getElem? (i := 70) (by decide +kernel))
set_option maxRecDepth 100000 in
theorem lm_3 : (.instantiable RX3 7 : Cond) ∈ lw_tbl := tb_1 _ (List.mem_of_getElem? (i := 197) (by decide +kernel))
set_option maxRecDepth 100000 in
theorem lm_4 : (.instantiable RX4 18 : Cond) ∈ lw_tbl := tb_3 _ (List.mem_of_getElem? (i := 154) (by decide +kernel))
set_option maxRecDepth 100000 in
theorem lm_5 : (.instantiable RX5 19 : Cond) ∈ lw_tbl := tb_4 _ (List.mem_of_getElem? (i := 42) (by decide +kernel))
set_option maxRecDepth 100000 in
theorem lm_6 : (.instantiable RX6 12 : Cond) ∈ lw_tbl := tb_3 _ (List.mem_of_getElem? (i := 236) (by decide +kernel))
set_option maxRecDepth 100000 in
theorem lm_7 : (.instantiable RX7 9 : Cond) ∈ lw_tbl := tb_3 _ (List.mem_of_getElem? (i := 119) (by decide +kernel))
set_option maxRecDepth 100000 in
theorem lm_8 : (.instantiable RX8 4 : Cond) ∈ lw_tbl := tb_3 _ (List.mem_of_getElem? (i := 216) (by decide +kernel))
set_option maxRecDepth 100000 in
theorem lm_9 : (.instantiable RX9 18 : Cond) ∈ lw_tbl := tb_1 _ (List.mem_of_getElem? (i := 41) (by decide +kernel))
set_option maxRecDepth 100000 in
theorem lm_10 : (.instantiable RX10 16 : Cond) ∈ lw_tbl := tb_1 _ (List.mem_of_getElem? (i := 227) (by decide +kernel))
set_option maxRecDepth 100000 in
theorem lm_11 : (.instantiable RX11 13 : Cond) ∈ lw_tbl := tb_3 _ (List.mem_of_getElem? (i := 73) (by decide +kernel))
set_option maxRecDepth 100000 in
theorem lm_12 : (.instantiable RX12 14 : Cond) ∈ lw_tbl := tb_1 _ (List.mem_of_getElem? (i := 33) (by decide +kernel))
set_option maxRecDepth 100000 in
theorem lm_13 : (.instantiable RX13 6 : Cond) ∈ lw_tbl := tb_11 _ (List.mem_of_getElem? (i := 129) (by decide +kernel))
set_option maxRecDepth 100000 in
theorem lm_14 : (.instantiable RX14 4 : Cond) ∈ lw_tbl := tb_10 _ (List.mem_of_getElem? (i := 172) (by decide +kernel))
set_option maxRecDepth 100000 in
theorem lm_15 : (.instantiable RX15 14 : Cond) ∈ lw_tbl := tb_11 _ (List.mem_of_getElem? (i := 27) (by decide +kernel))
set_option maxRecDepth 100000 in
theorem lm_16 : (.instantiable RX16 22 : Cond) ∈ lw_tbl := tb_10 _ (List.mem_of_getElem? (i := 34) (by decide +kernel))
set_option maxRecDepth 100000 in
theorem lm_17 : (.instantiable RX17 3 : Cond) ∈ lw_tbl := tb_11 _ (List.mem_of_getElem? (i := 170) (by decide +kernel))
set_option maxRecDepth 100000 in
theorem lm_18 : (.instantiable RX18 4 : Cond) ∈ lw_tbl := tb_13 _ (List.mem_of_getElem? (i := 0) (by decide +kernel))
set_option maxRecDepth 100000 in
theorem lm_19 : (.instantiable RX19 14 : Cond) ∈ lw_tbl := tb_10 _ (List.mem_of_getElem? (i := 198) (by decide +kernel))
set_option maxRecDepth 100000 in
theorem lm_20 : (.instantiable RX20 4 : Cond) ∈ lw_tbl := tb_11 _ (List.mem_of_getElem? (i := 217) (by decide +kernel))
set_option maxRecDepth 100000 in
theorem lm_21 : (.instantiable RX21 5 : Cond) ∈ lw_tbl := tb_12 _ (List.mem_of_getElem? (i := 50) (by decide +kernel))
set_option maxRecDepth 100000 in
theorem lm_22 : (.instantiable RX22 5 : Cond) ∈ lw_tbl := tb_10 _ (List.mem_of_getElem? (i := 141) (by decide +kernel))
set_option maxRecDepth 100000 in
theorem lm_23 : (.instantiable RX23 89 : Cond) ∈ lw_tbl := tb_8 _ (List.mem_of_getElem? (i := 142) (by decide +kernel))
set_option maxRecDepth 100000 in
theorem lm_24 : (.initialized RJ0 : Cond) ∈ lw_tbl := tb_1 _ (List.mem_of_getElem? (i := 4) (by decide +kernel))
set_option maxRecDepth 100000 in
theorem lm_25 : (.classLink RL 7 RX12 : Cond) ∈ lw_tbl := tb_1 _ (List.mem_of_getElem? (i := 32) (by decide +kernel))
set_option maxRecDepth 100000 in
theorem lm_26 : (.initialized RX12 : Cond) ∈ lw_tbl := tb_1 _ (List.mem_of_getElem? (i := 1) (by decide +kernel))
set_option maxRecDepth 100000 in
theorem lm_27 : (.code yL_cell cL_cell 2 (some .int) : Cond) ∈ lw_tbl := tb_8 _ (List.mem_of_getElem? (i := 140) (by decide +kernel))
set_option maxRecDepth 100000 in
theorem lm_28 : (.methodLink RL 9 yL_cell : Cond) ∈ lw_tbl := tb_8 _ (List.mem_of_getElem? (i := 138) (by decide +kernel))
set_option maxRecDepth 100000 in
theorem lm_29 : (.static yL_cell : Cond) ∈ lw_tbl := tb_8 _ (List.mem_of_getElem? (i := 139) (by decide +kernel))
set_option maxRecDepth 100000 in
theorem lm_30 : (.initialized RL : Cond) ∈ lw_tbl := tb_1 _ (List.mem_of_getElem? (i := 0) (by decide +kernel))
set_option maxRecDepth 100000 in
theorem lm_31 : (.code yX12_init cX12_init 3 none : Cond) ∈ lw_tbl := tb_1 _ (List.mem_of_getElem? (i := 36) (by decide +kernel))
set_option maxRecDepth 100000 in
theorem lm_32 : (.methodLink RX12 3 objectInit : Cond) ∈ lw_tbl := tb_1 _ (List.mem_of_getElem? (i := 37) (by decide +kernel))
set_option maxRecDepth 100000 in
theorem lm_33 : (.instanceMethod objectInit : Cond) ∈ lw_tbl := tb_1 _ (List.mem_of_getElem? (i := 38) (by decide +kernel))
set_option maxRecDepth 100000 in
theorem lm_34 : (.code objectInit ⟨#[0xb1]⟩ 1 none : Cond) ∈ lw_tbl := tb_1 _ (List.mem_of_getElem? (i := 39) (by decide +kernel))
set_option maxRecDepth 100000 in
theorem lm_35 : (.classLink RX12 9 RX9 : Cond) ∈ lw_tbl := tb_1 _ (List.mem_of_getElem? (i := 40) (by decide +kernel))
set_option maxRecDepth 100000 in
theorem lm_36 : (.initialized RX9 : Cond) ∈ lw_tbl := tb_1 _ (List.mem_of_getElem? (i := 2) (by decide +kernel))
set_option maxRecDepth 100000 in
theorem lm_37 : (.code yX9_init cX9_init 4 none : Cond) ∈ lw_tbl := tb_1 _ (List.mem_of_getElem? (i := 44) (by decide +kernel))
set_option maxRecDepth 100000 in
theorem lm_38 : (.methodLink RX9 3 objectInit : Cond) ∈ lw_tbl := tb_1 _ (List.mem_of_getElem? (i := 45) (by decide +kernel))
set_option maxRecDepth 100000 in
theorem lm_39 : (.arrayClass .int : Cond) ∈ lw_tbl := tb_1 _ (List.mem_of_getElem? (i := 193) (by decide +kernel))
set_option maxRecDepth 100000 in
theorem lm_40 : (.fieldLink RX9 9 "OwnedPlaces$Text" "kinds" "[I" : Cond) ∈ lw_tbl := tb_1 _ (List.mem_of_getElem? (i := 120) (by decide +kernel))
set_option maxRecDepth 100000 in
theorem lm_41 : (.fieldLink RX9 15 "OwnedPlaces$Text" "places" "[I" : Cond) ∈ lw_tbl := tb_1 _ (List.mem_of_getElem? (i := 123) (by decide +kernel))
set_option maxRecDepth 100000 in
theorem lm_42 : (.fieldLink RX9 18 "OwnedPlaces$Text" "names" "[I" : Cond) ∈ lw_tbl := tb_1 _ (List.mem_of_getElem? (i := 126) (by decide +kernel))
set_option maxRecDepth 100000 in
theorem lm_43 : (.arrayClass .long : Cond) ∈ lw_tbl := tb_1 _ (List.mem_of_getElem? (i := 194) (by decide +kernel))
set_option maxRecDepth 100000 in
theorem lm_44 : (.fieldLink RX9 21 "OwnedPlaces$Text" "numbers" "[J" : Cond) ∈ lw_tbl := tb_1 _ (List.mem_of_getElem? (i := 129) (by decide +kernel))
set_option maxRecDepth 100000 in
theorem lm_45 : (.fieldLink RX9 25 "OwnedPlaces$Text" "links" "[I" : Cond) ∈ lw_tbl := tb_1 _ (List.mem_of_getElem? (i := 131) (by decide +kernel))
set_option maxRecDepth 100000 in
theorem lm_46 : (.fieldLink RX9 28 "OwnedPlaces$Text" "place" "I" : Cond) ∈ lw_tbl := tb_1 _ (List.mem_of_getElem? (i := 144) (by decide +kernel))
set_option maxRecDepth 100000 in
theorem lm_47 : (.arrayClass .byte : Cond) ∈ lw_tbl := tb_1 _ (List.mem_of_getElem? (i := 195) (by decide +kernel))
set_option maxRecDepth 100000 in
theorem lm_48 : (.fieldLink RX9 32 "OwnedPlaces$Text" "bytes" "[B" : Cond) ∈ lw_tbl := tb_1 _ (List.mem_of_getElem? (i := 148) (by decide +kernel))
set_option maxRecDepth 100000 in
theorem lm_49 : (.fieldLink RX9 36 "OwnedPlaces$Text" "spelled" "[B" : Cond) ∈ lw_tbl := tb_1 _ (List.mem_of_getElem? (i := 150) (by decide +kernel))
set_option maxRecDepth 100000 in
theorem lm_50 : (.fieldLink RX9 39 "OwnedPlaces$Text" "nameFrom" "[I" : Cond) ∈ lw_tbl := tb_1 _ (List.mem_of_getElem? (i := 151) (by decide +kernel))
set_option maxRecDepth 100000 in
theorem lm_51 : (.fieldLink RX9 42 "OwnedPlaces$Text" "nameSize" "[I" : Cond) ∈ lw_tbl := tb_1 _ (List.mem_of_getElem? (i := 152) (by decide +kernel))
set_option maxRecDepth 100000 in
theorem lm_52 : (.fieldLink RX9 45 "OwnedPlaces$Text" "nameNext" "[I" : Cond) ∈ lw_tbl := tb_1 _ (List.mem_of_getElem? (i := 153) (by decide +kernel))
set_option maxRecDepth 100000 in
theorem lm_53 : (.fieldLink RX9 48 "OwnedPlaces$Text" "heads" "[I" : Cond) ∈ lw_tbl := tb_1 _ (List.mem_of_getElem? (i := 154) (by decide +kernel))
set_option maxRecDepth 100000 in
theorem lm_54 : (.code yJ7_fill_53178 cJ7_fill_53178 4 none : Cond) ∈ lw_tbl := tb_1 _ (List.mem_of_getElem? (i := 48) (by decide +kernel))
set_option maxRecDepth 100000 in
theorem lm_55 : (.methodLink RX9 51 yJ7_fill_53178 : Cond) ∈ lw_tbl := tb_1 _ (List.mem_of_getElem? (i := 46) (by decide +kernel))
set_option maxRecDepth 100000 in
theorem lm_56 : (.static yJ7_fill_53178 : Cond) ∈ lw_tbl := tb_1 _ (List.mem_of_getElem? (i := 47) (by decide +kernel))
set_option maxRecDepth 100000 in
theorem lm_57 : (.initialized RJ7 : Cond) ∈ lw_tbl := tb_1 _ (List.mem_of_getElem? (i := 3) (by decide +kernel))
set_option maxRecDepth 100000 in
theorem lm_58 : (.code yJ0_length_8abf5 cJ0_length_8abf5 1 (some .int) : Cond) ∈ lw_tbl := tb_1 _ (List.mem_of_getElem? (i := 53) (by decide +kernel))
set_option maxRecDepth 100000 in
theorem lm_59 : (.fieldLink RJ0 9 "java/lang/String" "value" "[B" : Cond) ∈ lw_tbl := tb_14 _ (List.mem_of_getElem? (i := 142) (by decide +kernel))
set_option maxRecDepth 100000 in
theorem lm_60 : (.code yJ0_coder_7d493 cJ0_coder_7d493 1 (some .byte) : Cond) ∈ lw_tbl := tb_1 _ (List.mem_of_getElem? (i := 57) (by decide +kernel))
set_option maxRecDepth 100000 in
theorem lm_61 : (.fieldLink RJ0 38 "java/lang/String" "COMPACT_STRINGS" "Z" : Cond) ∈ lw_tbl := tb_1 _ (List.mem_of_getElem? (i := 58) (by decide +kernel))
set_option maxRecDepth 100000 in
theorem lm_62 : (.fieldLink RJ0 15 "java/lang/String" "coder" "B" : Cond) ∈ lw_tbl := tb_14 _ (List.mem_of_getElem? (i := 143) (by decide +kernel))
set_option maxRecDepth 100000 in
theorem lm_63 : (.methodLink RJ0 335 yJ0_coder_7d493 : Cond) ∈ lw_tbl := tb_1 _ (List.mem_of_getElem? (i := 54) (by decide +kernel))
set_option maxRecDepth 100000 in
theorem lm_64 : (.instanceMethod yJ0_coder_7d493 : Cond) ∈ lw_tbl := tb_1 _ (List.mem_of_getElem? (i := 55) (by decide +kernel))
set_option maxRecDepth 100000 in
theorem lm_65 : (.selects RJ0 yJ0_coder_7d493 yJ0_coder_7d493 : Cond) ∈ lw_tbl := tb_1 _ (List.mem_of_getElem? (i := 56) (by decide +kernel))
set_option maxRecDepth 100000 in
theorem lm_66 : (.methodLink RX9 59 yJ0_length_8abf5 : Cond) ∈ lw_tbl := tb_1 _ (List.mem_of_getElem? (i := 50) (by decide +kernel))
set_option maxRecDepth 100000 in
theorem lm_67 : (.instanceMethod yJ0_length_8abf5 : Cond) ∈ lw_tbl := tb_1 _ (List.mem_of_getElem? (i := 51) (by decide +kernel))
set_option maxRecDepth 100000 in
theorem lm_68 : (.selects RJ0 yJ0_length_8abf5 yJ0_length_8abf5 : Cond) ∈ lw_tbl := tb_1 _ (List.mem_of_getElem? (i := 52) (by decide +kernel))
set_option maxRecDepth 100000 in
theorem lm_69 : (.code yJ0_charAt_5068e cJ0_charAt_5068e 2 (some .char) : Cond) ∈ lw_tbl := tb_1 _ (List.mem_of_getElem? (i := 63) (by decide +kernel))
set_option maxRecDepth 100000 in
theorem lm_70 : (.code yJ0_isLatin1_aae02 cJ0_isLatin1_aae02 1 (some .boolean) : Cond) ∈ lw_tbl := tb_1 _ (List.mem_of_getElem? (i := 67) (by decide +kernel))
set_option maxRecDepth 100000 in
theorem lm_71 : (.methodLink RJ0 492 yJ0_isLatin1_aae02 : Cond) ∈ lw_tbl := tb_1 _ (List.mem_of_getElem? (i := 64) (by decide +kernel))
set_option maxRecDepth 100000 in
theorem lm_72 : (.instanceMethod yJ0_isLatin1_aae02 : Cond) ∈ lw_tbl := tb_1 _ (List.mem_of_getElem? (i := 65) (by decide +kernel))
set_option maxRecDepth 100000 in
theorem lm_73 : (.selects RJ0 yJ0_isLatin1_aae02 yJ0_isLatin1_aae02 : Cond) ∈ lw_tbl := tb_1 _ (List.mem_of_getElem? (i := 66) (by decide +kernel))
set_option maxRecDepth 100000 in
theorem lm_74 : (.code yJ1_charAt_3b067 cJ1_charAt_3b067 2 (some .char) : Cond) ∈ lw_tbl := tb_1 _ (List.mem_of_getElem? (i := 70) (by decide +kernel))
set_option maxRecDepth 100000 in
theorem lm_75 : (.code yJ0_checkIndex_df160 cJ0_checkIndex_df160 2 none : Cond) ∈ lw_tbl := tb_1 _ (List.mem_of_getElem? (i := 73) (by decide +kernel))
set_option maxRecDepth 100000 in
theorem lm_76 : (.fieldLink RJ0 1053 "jdk/internal/util/Preconditions" "SIOOBE_FORMATTER" "Ljava/util/function/BiFunction;" : Cond) ∈ lw_tbl := tb_1 _ (List.mem_of_getElem? (i := 74) (by decide +kernel))
set_option maxRecDepth 100000 in
theorem lm_77 : (.code yJ3_checkIndex_8e157 cJ3_checkIndex_8e157 3 (some .int) : Cond) ∈ lw_tbl := tb_1 _ (List.mem_of_getElem? (i := 78) (by decide +kernel))
set_option maxRecDepth 100000 in
theorem lm_78 : (.methodLink RJ0 1059 yJ3_checkIndex_8e157 : Cond) ∈ lw_tbl := tb_1 _ (List.mem_of_getElem? (i := 76) (by decide +kernel))
set_option maxRecDepth 100000 in
theorem lm_79 : (.static yJ3_checkIndex_8e157 : Cond) ∈ lw_tbl := tb_1 _ (List.mem_of_getElem? (i := 77) (by decide +kernel))
set_option maxRecDepth 100000 in
theorem lm_80 : (.initialized RJ3 : Cond) ∈ lw_tbl := tb_1 _ (List.mem_of_getElem? (i := 6) (by decide +kernel))
set_option maxRecDepth 100000 in
theorem lm_81 : (.methodLink RJ1 9 yJ0_checkIndex_df160 : Cond) ∈ lw_tbl := tb_1 _ (List.mem_of_getElem? (i := 71) (by decide +kernel))
set_option maxRecDepth 100000 in
theorem lm_82 : (.static yJ0_checkIndex_df160 : Cond) ∈ lw_tbl := tb_1 _ (List.mem_of_getElem? (i := 72) (by decide +kernel))
set_option maxRecDepth 100000 in
theorem lm_83 : (.methodLink RJ0 495 yJ1_charAt_3b067 : Cond) ∈ lw_tbl := tb_1 _ (List.mem_of_getElem? (i := 68) (by decide +kernel))
set_option maxRecDepth 100000 in
theorem lm_84 : (.static yJ1_charAt_3b067 : Cond) ∈ lw_tbl := tb_1 _ (List.mem_of_getElem? (i := 69) (by decide +kernel))
set_option maxRecDepth 100000 in
theorem lm_85 : (.initialized RJ1 : Cond) ∈ lw_tbl := tb_1 _ (List.mem_of_getElem? (i := 5) (by decide +kernel))
set_option maxRecDepth 100000 in
theorem lm_86 : (.methodLink RX9 65 yJ0_charAt_5068e : Cond) ∈ lw_tbl := tb_1 _ (List.mem_of_getElem? (i := 60) (by decide +kernel))
set_option maxRecDepth 100000 in
theorem lm_87 : (.instanceMethod yJ0_charAt_5068e : Cond) ∈ lw_tbl := tb_1 _ (List.mem_of_getElem? (i := 61) (by decide +kernel))
set_option maxRecDepth 100000 in
theorem lm_88 : (.selects RJ0 yJ0_charAt_5068e yJ0_charAt_5068e : Cond) ∈ lw_tbl := tb_1 _ (List.mem_of_getElem? (i := 62) (by decide +kernel))
set_option maxRecDepth 100000 in
theorem lm_89 : (.code yX9_nameOf cX9_nameOf 8 (some .int) : Cond) ∈ lw_tbl := tb_1 _ (List.mem_of_getElem? (i := 101) (by decide +kernel))
set_option maxRecDepth 100000 in
theorem lm_90 : (.code yX9_addName cX9_addName 7 (some .int) : Cond) ∈ lw_tbl := tb_1 _ (List.mem_of_getElem? (i := 109) (by decide +kernel))
set_option maxRecDepth 100000 in
theorem lm_91 : (.fieldLink RX9 89 "OwnedPlaces$Text" "nameTotal" "I" : Cond) ∈ lw_tbl := tb_1 _ (List.mem_of_getElem? (i := 147) (by decide +kernel))
set_option maxRecDepth 100000 in
theorem lm_92 : (.methodLink RX9 83 arraycopyName : Cond) ∈ lw_tbl := tb_1 _ (List.mem_of_getElem? (i := 110) (by decide +kernel))
set_option maxRecDepth 100000 in
theorem lm_93 : (.native arraycopyName : Cond) ∈ lw_tbl := tb_1 _ (List.mem_of_getElem? (i := 112) (by decide +kernel))
set_option maxRecDepth 100000 in
theorem lm_94 : (.static arraycopyName : Cond) ∈ lw_tbl := tb_1 _ (List.mem_of_getElem? (i := 111) (by decide +kernel))
set_option maxRecDepth 100000 in
theorem lm_95 : (.initialized "java/lang/System" : Cond) ∈ lw_tbl := tb_1 _ (List.mem_of_getElem? (i := 8) (by decide +kernel))
set_option maxRecDepth 100000 in
theorem lm_96 : (.methodLink RX9 158 yX9_addName : Cond) ∈ lw_tbl := tb_1 _ (List.mem_of_getElem? (i := 106) (by decide +kernel))
set_option maxRecDepth 100000 in
theorem lm_97 : (.instanceMethod yX9_addName : Cond) ∈ lw_tbl := tb_1 _ (List.mem_of_getElem? (i := 108) (by decide +kernel))
set_option maxRecDepth 100000 in
theorem lm_98 : (.selects RX9 yX9_addName yX9_addName : Cond) ∈ lw_tbl := List.mem_append_left _ (List.mem_of_getElem? (i := 2) (by decide +kernel))
set_option maxRecDepth 100000 in
theorem lm_99 : (.code yX9_isSpelled cX9_isSpelled 6 (some .boolean) : Cond) ∈ lw_tbl := tb_1 _ (List.mem_of_getElem? (i := 105) (by decide +kernel))
set_option maxRecDepth 100000 in
theorem lm_100 : (.methodLink RX9 154 yX9_isSpelled : Cond) ∈ lw_tbl := tb_1 _ (List.mem_of_getElem? (i := 102) (by decide +kernel))
set_option maxRecDepth 100000 in
theorem lm_101 : (.instanceMethod yX9_isSpelled : Cond) ∈ lw_tbl := tb_1 _ (List.mem_of_getElem? (i := 104) (by decide +kernel))
set_option maxRecDepth 100000 in
theorem lm_102 : (.selects RX9 yX9_isSpelled yX9_isSpelled : Cond) ∈ lw_tbl := List.mem_append_left _ (List.mem_of_getElem? (i := 1) (by decide +kernel))
set_option maxRecDepth 100000 in
theorem lm_103 : (.methodLink RX9 69 yX9_nameOf : Cond) ∈ lw_tbl := tb_1 _ (List.mem_of_getElem? (i := 98) (by decide +kernel))
set_option maxRecDepth 100000 in
theorem lm_104 : (.instanceMethod yX9_nameOf : Cond) ∈ lw_tbl := tb_1 _ (List.mem_of_getElem? (i := 100) (by decide +kernel))
set_option maxRecDepth 100000 in
theorem lm_105 : (.selects RX9 yX9_nameOf yX9_nameOf : Cond) ∈ lw_tbl := List.mem_append_left _ (List.mem_of_getElem? (i := 0) (by decide +kernel))
set_option maxRecDepth 100000 in
theorem lm_106 : (.methodLink RX9 73 ⟨"[I", "clone", "()Ljava/lang/Object;"⟩ : Cond) ∈ lw_tbl := tb_1 _ (List.mem_of_getElem? (i := 113) (by decide +kernel))
set_option maxRecDepth 100000 in
theorem lm_107 : (.sameMethod "[I" "java/lang/Object" "clone" "()Ljava/lang/Object;" : Cond) ∈ lw_tbl := tb_1 _ (List.mem_of_getElem? (i := 114) (by decide +kernel))
set_option maxRecDepth 100000 in
theorem lm_108 : (.native ⟨"java/lang/Object", "clone", "()Ljava/lang/Object;"⟩ : Cond) ∈ lw_tbl := tb_1 _ (List.mem_of_getElem? (i := 115) (by decide +kernel))
set_option maxRecDepth 100000 in
theorem lm_109 : (.instanceMethod ⟨"java/lang/Object", "clone", "()Ljava/lang/Object;"⟩ : Cond) ∈ lw_tbl := tb_1 _ (List.mem_of_getElem? (i := 116) (by decide +kernel))
set_option maxRecDepth 100000 in
theorem lm_110 : (.selects "[I" ⟨"[I", "clone", "()Ljava/lang/Object;"⟩ ⟨"java/lang/Object", "clone", "()Ljava/lang/Object;"⟩ : Cond) ∈ lw_tbl := tb_1 _ (List.mem_of_getElem? (i := 117) (by decide +kernel))
set_option maxRecDepth 100000 in
theorem lm_111 : (.classLink RX9 74 "[I" : Cond) ∈ lw_tbl := tb_1 _ (List.mem_of_getElem? (i := 119) (by decide +kernel))
set_option maxRecDepth 100000 in
theorem lm_112 : (.fieldLink RX9 78 "OwnedPlaces$Text" "wordHeads" "[I" : Cond) ∈ lw_tbl := tb_1 _ (List.mem_of_getElem? (i := 155) (by decide +kernel))
set_option maxRecDepth 100000 in
theorem lm_113 : (.methodLink RX12 11 yX9_init : Cond) ∈ lw_tbl := tb_1 _ (List.mem_of_getElem? (i := 42) (by decide +kernel))
set_option maxRecDepth 100000 in
theorem lm_114 : (.instanceMethod yX9_init : Cond) ∈ lw_tbl := tb_1 _ (List.mem_of_getElem? (i := 43) (by decide +kernel))
set_option maxRecDepth 100000 in
theorem lm_115 : (.fieldLink RX12 12 "OwnedPlaces" "text" "LOwnedPlaces$Text;" : Cond) ∈ lw_tbl := tb_4 _ (List.mem_of_getElem? (i := 107) (by decide +kernel))
set_option maxRecDepth 100000 in
theorem lm_116 : (.classLink RX12 16 RX3 : Cond) ∈ lw_tbl := tb_1 _ (List.mem_of_getElem? (i := 196) (by decide +kernel))
set_option maxRecDepth 100000 in
theorem lm_117 : (.initialized RX3 : Cond) ∈ lw_tbl := tb_1 _ (List.mem_of_getElem? (i := 9) (by decide +kernel))
set_option maxRecDepth 100000 in
theorem lm_118 : (.code yX3_init cX3_init 2 none : Cond) ∈ lw_tbl := tb_1 _ (List.mem_of_getElem? (i := 200) (by decide +kernel))
set_option maxRecDepth 100000 in
theorem lm_119 : (.methodLink RX3 3 objectInit : Cond) ∈ lw_tbl := tb_1 _ (List.mem_of_getElem? (i := 201) (by decide +kernel))
set_option maxRecDepth 100000 in
theorem lm_120 : (.fieldLink RX3 9 "OwnedPlaces$Grammar" "items" "[I" : Cond) ∈ lw_tbl := tb_1 _ (List.mem_of_getElem? (i := 203) (by decide +kernel))
set_option maxRecDepth 100000 in
theorem lm_121 : (.fieldLink RX3 15 "OwnedPlaces$Grammar" "text" "LOwnedPlaces$Text;" : Cond) ∈ lw_tbl := tb_1 _ (List.mem_of_getElem? (i := 202) (by decide +kernel))
set_option maxRecDepth 100000 in
theorem lm_122 : (.methodLink RX12 18 yX3_init : Cond) ∈ lw_tbl := tb_1 _ (List.mem_of_getElem? (i := 198) (by decide +kernel))
set_option maxRecDepth 100000 in
theorem lm_123 : (.instanceMethod yX3_init : Cond) ∈ lw_tbl := tb_1 _ (List.mem_of_getElem? (i := 199) (by decide +kernel))
set_option maxRecDepth 100000 in
theorem lm_124 : (.fieldLink RX12 21 "OwnedPlaces" "grammar" "LOwnedPlaces$Grammar;" : Cond) ∈ lw_tbl := tb_4 _ (List.mem_of_getElem? (i := 108) (by decide +kernel))
set_option maxRecDepth 100000 in
theorem lm_125 : (.classLink RX12 25 RX10 : Cond) ∈ lw_tbl := tb_1 _ (List.mem_of_getElem? (i := 226) (by decide +kernel))
set_option maxRecDepth 100000 in
theorem lm_126 : (.initialized RX10 : Cond) ∈ lw_tbl := tb_1 _ (List.mem_of_getElem? (i := 10) (by decide +kernel))
set_option maxRecDepth 100000 in
theorem lm_127 : (.code yX10_init cX10_init 1 none : Cond) ∈ lw_tbl := tb_1 _ (List.mem_of_getElem? (i := 230) (by decide +kernel))
set_option maxRecDepth 100000 in
theorem lm_128 : (.methodLink RX10 3 objectInit : Cond) ∈ lw_tbl := tb_1 _ (List.mem_of_getElem? (i := 231) (by decide +kernel))
set_option maxRecDepth 100000 in
theorem lm_129 : (.fieldLink RX10 9 "OwnedPlaces$Types" "kind" "[I" : Cond) ∈ lw_tbl := tb_1 _ (List.mem_of_getElem? (i := 232) (by decide +kernel))
set_option maxRecDepth 100000 in
theorem lm_130 : (.fieldLink RX10 15 "OwnedPlaces$Types" "of" "[I" : Cond) ∈ lw_tbl := tb_1 _ (List.mem_of_getElem? (i := 236) (by decide +kernel))
set_option maxRecDepth 100000 in
theorem lm_131 : (.fieldLink RX10 18 "OwnedPlaces$Types" "size" "[I" : Cond) ∈ lw_tbl := tb_1 _ (List.mem_of_getElem? (i := 239) (by decide +kernel))
set_option maxRecDepth 100000 in
theorem lm_132 : (.arrayClass .boolean : Cond) ∈ lw_tbl := tb_2 _ (List.mem_of_getElem? (i := 61) (by decide +kernel))
set_option maxRecDepth 100000 in
theorem lm_133 : (.fieldLink RX10 21 "OwnedPlaces$Types" "drops" "[Z" : Cond) ∈ lw_tbl := tb_2 _ (List.mem_of_getElem? (i := 5) (by decide +kernel))
set_option maxRecDepth 100000 in
theorem lm_134 : (.fieldLink RX10 25 "OwnedPlaces$Types" "boxes" "[I" : Cond) ∈ lw_tbl := tb_2 _ (List.mem_of_getElem? (i := 7) (by decide +kernel))
set_option maxRecDepth 100000 in
theorem lm_135 : (.fieldLink RX10 28 "OwnedPlaces$Types" "shared" "[I" : Cond) ∈ lw_tbl := tb_2 _ (List.mem_of_getElem? (i := 8) (by decide +kernel))
set_option maxRecDepth 100000 in
theorem lm_136 : (.fieldLink RX10 31 "OwnedPlaces$Types" "unique" "[I" : Cond) ∈ lw_tbl := tb_2 _ (List.mem_of_getElem? (i := 9) (by decide +kernel))
set_option maxRecDepth 100000 in
theorem lm_137 : (.fieldLink RX10 34 "OwnedPlaces$Types" "shapeToken" "[I" : Cond) ∈ lw_tbl := tb_2 _ (List.mem_of_getElem? (i := 13) (by decide +kernel))
set_option maxRecDepth 100000 in
theorem lm_138 : (.fieldLink RX10 37 "OwnedPlaces$Types" "variants" "[I" : Cond) ∈ lw_tbl := tb_2 _ (List.mem_of_getElem? (i := 15) (by decide +kernel))
set_option maxRecDepth 100000 in
theorem lm_139 : (.fieldLink RX10 40 "OwnedPlaces$Types" "variantName" "[I" : Cond) ∈ lw_tbl := tb_2 _ (List.mem_of_getElem? (i := 17) (by decide +kernel))
set_option maxRecDepth 100000 in
theorem lm_140 : (.fieldLink RX10 43 "OwnedPlaces$Types" "parts" "[I" : Cond) ∈ lw_tbl := tb_2 _ (List.mem_of_getElem? (i := 18) (by decide +kernel))
set_option maxRecDepth 100000 in
theorem lm_141 : (.fieldLink RX10 46 "OwnedPlaces$Types" "partName" "[I" : Cond) ∈ lw_tbl := tb_2 _ (List.mem_of_getElem? (i := 21) (by decide +kernel))
set_option maxRecDepth 100000 in
theorem lm_142 : (.fieldLink RX10 49 "OwnedPlaces$Types" "partType" "[I" : Cond) ∈ lw_tbl := tb_2 _ (List.mem_of_getElem? (i := 22) (by decide +kernel))
set_option maxRecDepth 100000 in
theorem lm_143 : (.fieldLink RX10 52 "OwnedPlaces$Types" "partOffset" "[I" : Cond) ∈ lw_tbl := tb_2 _ (List.mem_of_getElem? (i := 25) (by decide +kernel))
set_option maxRecDepth 100000 in
theorem lm_144 : (.instanceMethod yX10_init : Cond) ∈ lw_tbl := tb_1 _ (List.mem_of_getElem? (i := 229) (by decide +kernel))
set_option maxRecDepth 100000 in
theorem lm_145 : (.fieldLink RX12 28 "OwnedPlaces" "types" "LOwnedPlaces$Types;" : Cond) ∈ lw_tbl := tb_4 _ (List.mem_of_getElem? (i := 109) (by decide +kernel))
set_option maxRecDepth 100000 in
theorem lm_146 : (.classLink RX12 32 RX1 : Cond) ∈ lw_tbl := tb_2 _ (List.mem_of_getElem? (i := 62) (by decide +kernel))
set_option maxRecDepth 100000 in
theorem lm_147 : (.initialized RX1 : Cond) ∈ lw_tbl := tb_1 _ (List.mem_of_getElem? (i := 11) (by decide +kernel))
set_option maxRecDepth 100000 in
theorem lm_148 : (.code yX1_init cX1_init 4 none : Cond) ∈ lw_tbl := tb_2 _ (List.mem_of_getElem? (i := 66) (by decide +kernel))
set_option maxRecDepth 100000 in
theorem lm_149 : (.methodLink RX1 3 objectInit : Cond) ∈ lw_tbl := tb_2 _ (List.mem_of_getElem? (i := 67) (by decide +kernel))
set_option maxRecDepth 100000 in
theorem lm_150 : (.classLink RX1 9 RX2 : Cond) ∈ lw_tbl := tb_2 _ (List.mem_of_getElem? (i := 68) (by decide +kernel))
set_option maxRecDepth 100000 in
theorem lm_151 : (.fieldLink RX1 11 "OwnedPlaces$Declarations" "functions" "[LOwnedPlaces$Function;" : Cond) ∈ lw_tbl := tb_2 _ (List.mem_of_getElem? (i := 189) (by decide +kernel))
set_option maxRecDepth 100000 in
theorem lm_152 : (.fieldLink RX1 17 "OwnedPlaces$Declarations" "meanings" "[I" : Cond) ∈ lw_tbl := tb_2 _ (List.mem_of_getElem? (i := 199) (by decide +kernel))
set_option maxRecDepth 100000 in
theorem lm_153 : (.fieldLink RX1 21 "OwnedPlaces$Declarations" "text" "LOwnedPlaces$Text;" : Cond) ∈ lw_tbl := tb_2 _ (List.mem_of_getElem? (i := 187) (by decide +kernel))
set_option maxRecDepth 100000 in
theorem lm_154 : (.fieldLink RX1 25 "OwnedPlaces$Declarations" "types" "LOwnedPlaces$Types;" : Cond) ∈ lw_tbl := tb_2 _ (List.mem_of_getElem? (i := 188) (by decide +kernel))
set_option maxRecDepth 100000 in
theorem lm_155 : (.initialized RX2 : Cond) ∈ lw_tbl := tb_1 _ (List.mem_of_getElem? (i := 12) (by decide +kernel))
set_option maxRecDepth 100000 in
theorem lm_156 : (.code yX2_init cX2_init 1 none : Cond) ∈ lw_tbl := tb_2 _ (List.mem_of_getElem? (i := 73) (by decide +kernel))
set_option maxRecDepth 100000 in
theorem lm_157 : (.methodLink RX2 3 objectInit : Cond) ∈ lw_tbl := tb_2 _ (List.mem_of_getElem? (i := 74) (by decide +kernel))
set_option maxRecDepth 100000 in
theorem lm_158 : (.fieldLink RX2 9 "OwnedPlaces$Function" "lifeName" "[I" : Cond) ∈ lw_tbl := tb_2 _ (List.mem_of_getElem? (i := 81) (by decide +kernel))
set_option maxRecDepth 100000 in
theorem lm_159 : (.fieldLink RX2 15 "OwnedPlaces$Function" "parameterLife" "[I" : Cond) ∈ lw_tbl := tb_2 _ (List.mem_of_getElem? (i := 89) (by decide +kernel))
set_option maxRecDepth 100000 in
theorem lm_160 : (.fieldLink RX2 18 "OwnedPlaces$Function" "name" "[I" : Cond) ∈ lw_tbl := tb_2 _ (List.mem_of_getElem? (i := 106) (by decide +kernel))
set_option maxRecDepth 100000 in
theorem lm_161 : (.fieldLink RX2 21 "OwnedPlaces$Function" "type" "[I" : Cond) ∈ lw_tbl := tb_2 _ (List.mem_of_getElem? (i := 107) (by decide +kernel))
set_option maxRecDepth 100000 in
theorem lm_162 : (.fieldLink RX2 24 "OwnedPlaces$Function" "mutable" "[Z" : Cond) ∈ lw_tbl := tb_2 _ (List.mem_of_getElem? (i := 113) (by decide +kernel))
set_option maxRecDepth 100000 in
theorem lm_163 : (.fieldLink RX2 28 "OwnedPlaces$Function" "offset" "[I" : Cond) ∈ lw_tbl := tb_2 _ (List.mem_of_getElem? (i := 116) (by decide +kernel))
set_option maxRecDepth 100000 in
theorem lm_164 : (.fieldLink RX2 31 "OwnedPlaces$Function" "from" "[I" : Cond) ∈ lw_tbl := tb_2 _ (List.mem_of_getElem? (i := 118) (by decide +kernel))
set_option maxRecDepth 100000 in
theorem lm_165 : (.fieldLink RX2 34 "OwnedPlaces$Function" "to" "[I" : Cond) ∈ lw_tbl := tb_2 _ (List.mem_of_getElem? (i := 121) (by decide +kernel))
set_option maxRecDepth 100000 in
theorem lm_166 : (.instanceMethod yX2_init : Cond) ∈ lw_tbl := tb_2 _ (List.mem_of_getElem? (i := 72) (by decide +kernel))
set_option maxRecDepth 100000 in
theorem lm_167 : (.methodLink RX12 34 yX1_init : Cond) ∈ lw_tbl := tb_2 _ (List.mem_of_getElem? (i := 64) (by decide +kernel))
set_option maxRecDepth 100000 in
theorem lm_168 : (.instanceMethod yX1_init : Cond) ∈ lw_tbl := tb_2 _ (List.mem_of_getElem? (i := 65) (by decide +kernel))
set_option maxRecDepth 100000 in
theorem lm_169 : (.fieldLink RX12 37 "OwnedPlaces" "declared" "LOwnedPlaces$Declarations;" : Cond) ∈ lw_tbl := tb_4 _ (List.mem_of_getElem? (i := 110) (by decide +kernel))
set_option maxRecDepth 100000 in
theorem lm_170 : (.classLink RX12 41 RX0 : Cond) ∈ lw_tbl := tb_2 _ (List.mem_of_getElem? (i := 219) (by decide +kernel))
set_option maxRecDepth 100000 in
theorem lm_171 : (.initialized RX0 : Cond) ∈ lw_tbl := tb_1 _ (List.mem_of_getElem? (i := 13) (by decide +kernel))
set_option maxRecDepth 100000 in
theorem lm_172 : (.code yX0_init cX0_init 1 none : Cond) ∈ lw_tbl := tb_2 _ (List.mem_of_getElem? (i := 223) (by decide +kernel))
set_option maxRecDepth 100000 in
theorem lm_173 : (.methodLink RX0 3 objectInit : Cond) ∈ lw_tbl := tb_2 _ (List.mem_of_getElem? (i := 224) (by decide +kernel))
set_option maxRecDepth 100000 in
theorem lm_174 : (.fieldLink RX0 9 "OwnedPlaces$Code" "op" "[I" : Cond) ∈ lw_tbl := tb_2 _ (List.mem_of_getElem? (i := 225) (by decide +kernel))
set_option maxRecDepth 100000 in
theorem lm_175 : (.fieldLink RX0 15 "OwnedPlaces$Code" "a" "[I" : Cond) ∈ lw_tbl := tb_2 _ (List.mem_of_getElem? (i := 229) (by decide +kernel))
set_option maxRecDepth 100000 in
theorem lm_176 : (.fieldLink RX0 18 "OwnedPlaces$Code" "b" "[I" : Cond) ∈ lw_tbl := tb_2 _ (List.mem_of_getElem? (i := 233) (by decide +kernel))
set_option maxRecDepth 100000 in
theorem lm_177 : (.fieldLink RX0 21 "OwnedPlaces$Code" "c" "[I" : Cond) ∈ lw_tbl := tb_2 _ (List.mem_of_getElem? (i := 236) (by decide +kernel))
set_option maxRecDepth 100000 in
theorem lm_178 : (.fieldLink RX0 24 "OwnedPlaces$Code" "where" "[I" : Cond) ∈ lw_tbl := tb_3 _ (List.mem_of_getElem? (i := 0) (by decide +kernel))
set_option maxRecDepth 100000 in
theorem lm_179 : (.fieldLink RX0 27 "OwnedPlaces$Code" "labelAt" "[I" : Cond) ∈ lw_tbl := tb_3 _ (List.mem_of_getElem? (i := 4) (by decide +kernel))
set_option maxRecDepth 100000 in
theorem lm_180 : (.fieldLink RX0 30 "OwnedPlaces$Code" "placeVariable" "[I" : Cond) ∈ lw_tbl := tb_3 _ (List.mem_of_getElem? (i := 8) (by decide +kernel))
set_option maxRecDepth 100000 in
theorem lm_181 : (.fieldLink RX0 33 "OwnedPlaces$Code" "placePath" "[I" : Cond) ∈ lw_tbl := tb_3 _ (List.mem_of_getElem? (i := 12) (by decide +kernel))
set_option maxRecDepth 100000 in
theorem lm_182 : (.fieldLink RX0 36 "OwnedPlaces$Code" "placeLength" "[I" : Cond) ∈ lw_tbl := tb_3 _ (List.mem_of_getElem? (i := 14) (by decide +kernel))
set_option maxRecDepth 100000 in
theorem lm_183 : (.fieldLink RX0 39 "OwnedPlaces$Code" "placeRoute" "[I" : Cond) ∈ lw_tbl := tb_3 _ (List.mem_of_getElem? (i := 17) (by decide +kernel))
set_option maxRecDepth 100000 in
theorem lm_184 : (.fieldLink RX0 42 "OwnedPlaces$Code" "placeType" "[I" : Cond) ∈ lw_tbl := tb_3 _ (List.mem_of_getElem? (i := 19) (by decide +kernel))
set_option maxRecDepth 100000 in
theorem lm_185 : (.fieldLink RX0 45 "OwnedPlaces$Code" "placeWhere" "[I" : Cond) ∈ lw_tbl := tb_3 _ (List.mem_of_getElem? (i := 22) (by decide +kernel))
set_option maxRecDepth 100000 in
theorem lm_186 : (.fieldLink RX0 48 "OwnedPlaces$Code" "placeCells" "[I" : Cond) ∈ lw_tbl := tb_3 _ (List.mem_of_getElem? (i := 25) (by decide +kernel))
set_option maxRecDepth 100000 in
theorem lm_187 : (.fieldLink RX0 51 "OwnedPlaces$Code" "armLabels" "[I" : Cond) ∈ lw_tbl := tb_3 _ (List.mem_of_getElem? (i := 29) (by decide +kernel))
set_option maxRecDepth 100000 in
theorem lm_188 : (.instanceMethod yX0_init : Cond) ∈ lw_tbl := tb_2 _ (List.mem_of_getElem? (i := 222) (by decide +kernel))
set_option maxRecDepth 100000 in
theorem lm_189 : (.fieldLink RX12 44 "OwnedPlaces" "code" "LOwnedPlaces$Code;" : Cond) ∈ lw_tbl := tb_4 _ (List.mem_of_getElem? (i := 111) (by decide +kernel))
set_option maxRecDepth 100000 in
theorem lm_190 : (.classLink RX12 48 RX11 : Cond) ∈ lw_tbl := tb_3 _ (List.mem_of_getElem? (i := 72) (by decide +kernel))
set_option maxRecDepth 100000 in
theorem lm_191 : (.initialized RX11 : Cond) ∈ lw_tbl := tb_1 _ (List.mem_of_getElem? (i := 14) (by decide +kernel))
set_option maxRecDepth 100000 in
theorem lm_192 : (.code yX11_init cX11_init 5 none : Cond) ∈ lw_tbl := tb_3 _ (List.mem_of_getElem? (i := 76) (by decide +kernel))
set_option maxRecDepth 100000 in
theorem lm_193 : (.methodLink RX11 3 objectInit : Cond) ∈ lw_tbl := tb_3 _ (List.mem_of_getElem? (i := 77) (by decide +kernel))
set_option maxRecDepth 100000 in
theorem lm_194 : (.fieldLink RX11 9 "OwnedPlaces$Typing" "text" "LOwnedPlaces$Text;" : Cond) ∈ lw_tbl := tb_3 _ (List.mem_of_getElem? (i := 78) (by decide +kernel))
set_option maxRecDepth 100000 in
theorem lm_195 : (.fieldLink RX11 15 "OwnedPlaces$Typing" "types" "LOwnedPlaces$Types;" : Cond) ∈ lw_tbl := tb_3 _ (List.mem_of_getElem? (i := 79) (by decide +kernel))
set_option maxRecDepth 100000 in
theorem lm_196 : (.fieldLink RX11 19 "OwnedPlaces$Typing" "declared" "LOwnedPlaces$Declarations;" : Cond) ∈ lw_tbl := tb_3 _ (List.mem_of_getElem? (i := 80) (by decide +kernel))
set_option maxRecDepth 100000 in
theorem lm_197 : (.fieldLink RX11 23 "OwnedPlaces$Typing" "code" "LOwnedPlaces$Code;" : Cond) ∈ lw_tbl := tb_3 _ (List.mem_of_getElem? (i := 81) (by decide +kernel))
set_option maxRecDepth 100000 in
theorem lm_198 : (.methodLink RX12 50 yX11_init : Cond) ∈ lw_tbl := tb_3 _ (List.mem_of_getElem? (i := 74) (by decide +kernel))
set_option maxRecDepth 100000 in
theorem lm_199 : (.instanceMethod yX11_init : Cond) ∈ lw_tbl := tb_3 _ (List.mem_of_getElem? (i := 75) (by decide +kernel))
set_option maxRecDepth 100000 in
theorem lm_200 : (.fieldLink RX12 53 "OwnedPlaces" "typing" "LOwnedPlaces$Typing;" : Cond) ∈ lw_tbl := tb_4 _ (List.mem_of_getElem? (i := 112) (by decide +kernel))
set_option maxRecDepth 100000 in
theorem lm_201 : (.classLink RX12 57 RX7 : Cond) ∈ lw_tbl := tb_3 _ (List.mem_of_getElem? (i := 118) (by decide +kernel))
set_option maxRecDepth 100000 in
theorem lm_202 : (.initialized RX7 : Cond) ∈ lw_tbl := tb_1 _ (List.mem_of_getElem? (i := 15) (by decide +kernel))
set_option maxRecDepth 100000 in
theorem lm_203 : (.code yX7_init cX7_init 3 none : Cond) ∈ lw_tbl := tb_3 _ (List.mem_of_getElem? (i := 122) (by decide +kernel))
set_option maxRecDepth 100000 in
theorem lm_204 : (.methodLink RX7 3 objectInit : Cond) ∈ lw_tbl := tb_3 _ (List.mem_of_getElem? (i := 123) (by decide +kernel))
set_option maxRecDepth 100000 in
theorem lm_205 : (.fieldLink RX7 9 "OwnedPlaces$Moves" "state" "[I" : Cond) ∈ lw_tbl := tb_3 _ (List.mem_of_getElem? (i := 128) (by decide +kernel))
set_option maxRecDepth 100000 in
theorem lm_206 : (.constant RX7 15 44000 : Cond) ∈ lw_tbl := tb_3 _ (List.mem_of_getElem? (i := 124) (by decide +kernel))
set_option maxRecDepth 100000 in
theorem lm_207 : (.fieldLink RX7 16 "OwnedPlaces$Moves" "rows" "[I" : Cond) ∈ lw_tbl := tb_3 _ (List.mem_of_getElem? (i := 129) (by decide +kernel))
set_option maxRecDepth 100000 in
theorem lm_208 : (.fieldLink RX7 19 "OwnedPlaces$Moves" "reached" "[Z" : Cond) ∈ lw_tbl := tb_3 _ (List.mem_of_getElem? (i := 130) (by decide +kernel))
set_option maxRecDepth 100000 in
theorem lm_209 : (.fieldLink RX7 23 "OwnedPlaces$Moves" "types" "LOwnedPlaces$Types;" : Cond) ∈ lw_tbl := tb_3 _ (List.mem_of_getElem? (i := 125) (by decide +kernel))
set_option maxRecDepth 100000 in
theorem lm_210 : (.fieldLink RX7 27 "OwnedPlaces$Moves" "code" "LOwnedPlaces$Code;" : Cond) ∈ lw_tbl := tb_3 _ (List.mem_of_getElem? (i := 126) (by decide +kernel))
set_option maxRecDepth 100000 in
theorem lm_211 : (.methodLink RX12 59 yX7_init : Cond) ∈ lw_tbl := tb_3 _ (List.mem_of_getElem? (i := 120) (by decide +kernel))
set_option maxRecDepth 100000 in
theorem lm_212 : (.instanceMethod yX7_init : Cond) ∈ lw_tbl := tb_3 _ (List.mem_of_getElem? (i := 121) (by decide +kernel))
set_option maxRecDepth 100000 in
theorem lm_213 : (.fieldLink RX12 62 "OwnedPlaces" "moves" "LOwnedPlaces$Moves;" : Cond) ∈ lw_tbl := tb_4 _ (List.mem_of_getElem? (i := 113) (by decide +kernel))
set_option maxRecDepth 100000 in
theorem lm_214 : (.classLink RX12 66 RX4 : Cond) ∈ lw_tbl := tb_3 _ (List.mem_of_getElem? (i := 153) (by decide +kernel))
set_option maxRecDepth 100000 in
theorem lm_215 : (.initialized RX4 : Cond) ∈ lw_tbl := tb_1 _ (List.mem_of_getElem? (i := 16) (by decide +kernel))
set_option maxRecDepth 100000 in
theorem lm_216 : (.code yX4_init cX4_init 4 none : Cond) ∈ lw_tbl := tb_3 _ (List.mem_of_getElem? (i := 157) (by decide +kernel))
set_option maxRecDepth 100000 in
theorem lm_217 : (.methodLink RX4 3 objectInit : Cond) ∈ lw_tbl := tb_3 _ (List.mem_of_getElem? (i := 158) (by decide +kernel))
set_option maxRecDepth 100000 in
theorem lm_218 : (.fieldLink RX4 9 "OwnedPlaces$Loans" "usedBehind" "[J" : Cond) ∈ lw_tbl := tb_3 _ (List.mem_of_getElem? (i := 164) (by decide +kernel))
set_option maxRecDepth 100000 in
theorem lm_219 : (.fieldLink RX4 15 "OwnedPlaces$Loans" "usedAt" "[J" : Cond) ∈ lw_tbl := tb_3 _ (List.mem_of_getElem? (i := 165) (by decide +kernel))
set_option maxRecDepth 100000 in
theorem lm_220 : (.fieldLink RX4 18 "OwnedPlaces$Loans" "held" "[J" : Cond) ∈ lw_tbl := tb_3 _ (List.mem_of_getElem? (i := 166) (by decide +kernel))
set_option maxRecDepth 100000 in
theorem lm_221 : (.constant RX4 21 44000 : Cond) ∈ lw_tbl := tb_3 _ (List.mem_of_getElem? (i := 159) (by decide +kernel))
set_option maxRecDepth 100000 in
theorem lm_222 : (.fieldLink RX4 22 "OwnedPlaces$Loans" "rows" "[J" : Cond) ∈ lw_tbl := tb_3 _ (List.mem_of_getElem? (i := 167) (by decide +kernel))
set_option maxRecDepth 100000 in
theorem lm_223 : (.fieldLink RX4 25 "OwnedPlaces$Loans" "reached" "[Z" : Cond) ∈ lw_tbl := tb_3 _ (List.mem_of_getElem? (i := 168) (by decide +kernel))
set_option maxRecDepth 100000 in
theorem lm_224 : (.fieldLink RX4 29 "OwnedPlaces$Loans" "temps" "[J" : Cond) ∈ lw_tbl := tb_3 _ (List.mem_of_getElem? (i := 169) (by decide +kernel))
set_option maxRecDepth 100000 in
theorem lm_225 : (.fieldLink RX4 32 "OwnedPlaces$Loans" "placeOf" "[I" : Cond) ∈ lw_tbl := tb_3 _ (List.mem_of_getElem? (i := 171) (by decide +kernel))
set_option maxRecDepth 100000 in
theorem lm_226 : (.fieldLink RX4 36 "OwnedPlaces$Loans" "heldByLoan" "[J" : Cond) ∈ lw_tbl := tb_3 _ (List.mem_of_getElem? (i := 172) (by decide +kernel))
set_option maxRecDepth 100000 in
theorem lm_227 : (.fieldLink RX4 39 "OwnedPlaces$Loans" "loansOn" "[J" : Cond) ∈ lw_tbl := tb_3 _ (List.mem_of_getElem? (i := 173) (by decide +kernel))
set_option maxRecDepth 100000 in
theorem lm_228 : (.fieldLink RX4 42 "OwnedPlaces$Loans" "types" "LOwnedPlaces$Types;" : Cond) ∈ lw_tbl := tb_3 _ (List.mem_of_getElem? (i := 160) (by decide +kernel))
set_option maxRecDepth 100000 in
theorem lm_229 : (.fieldLink RX4 46 "OwnedPlaces$Loans" "code" "LOwnedPlaces$Code;" : Cond) ∈ lw_tbl := tb_3 _ (List.mem_of_getElem? (i := 161) (by decide +kernel))
set_option maxRecDepth 100000 in
theorem lm_230 : (.fieldLink RX4 50 "OwnedPlaces$Loans" "declared" "LOwnedPlaces$Declarations;" : Cond) ∈ lw_tbl := tb_3 _ (List.mem_of_getElem? (i := 162) (by decide +kernel))
set_option maxRecDepth 100000 in
theorem lm_231 : (.methodLink RX12 68 yX4_init : Cond) ∈ lw_tbl := tb_3 _ (List.mem_of_getElem? (i := 155) (by decide +kernel))
set_option maxRecDepth 100000 in
theorem lm_232 : (.instanceMethod yX4_init : Cond) ∈ lw_tbl := tb_3 _ (List.mem_of_getElem? (i := 156) (by decide +kernel))
set_option maxRecDepth 100000 in
theorem lm_233 : (.fieldLink RX12 71 "OwnedPlaces" "loans" "LOwnedPlaces$Loans;" : Cond) ∈ lw_tbl := tb_4 _ (List.mem_of_getElem? (i := 114) (by decide +kernel))
set_option maxRecDepth 100000 in
theorem lm_234 : (.classLink RX12 75 RX8 : Cond) ∈ lw_tbl := tb_3 _ (List.mem_of_getElem? (i := 215) (by decide +kernel))
set_option maxRecDepth 100000 in
theorem lm_235 : (.initialized RX8 : Cond) ∈ lw_tbl := tb_1 _ (List.mem_of_getElem? (i := 17) (by decide +kernel))
set_option maxRecDepth 100000 in
theorem lm_236 : (.code yX8_init cX8_init 2 none : Cond) ∈ lw_tbl := tb_3 _ (List.mem_of_getElem? (i := 219) (by decide +kernel))
set_option maxRecDepth 100000 in
theorem lm_237 : (.methodLink RX8 1 objectInit : Cond) ∈ lw_tbl := tb_3 _ (List.mem_of_getElem? (i := 220) (by decide +kernel))
set_option maxRecDepth 100000 in
theorem lm_238 : (.fieldLink RX8 7 "OwnedPlaces$Queue" "digits" "[B" : Cond) ∈ lw_tbl := tb_3 _ (List.mem_of_getElem? (i := 222) (by decide +kernel))
set_option maxRecDepth 100000 in
theorem lm_239 : (.fieldLink RX8 13 "OwnedPlaces$Queue" "row" "[J" : Cond) ∈ lw_tbl := tb_3 _ (List.mem_of_getElem? (i := 221) (by decide +kernel))
set_option maxRecDepth 100000 in
theorem lm_240 : (.methodLink RX12 77 yX8_init : Cond) ∈ lw_tbl := tb_3 _ (List.mem_of_getElem? (i := 217) (by decide +kernel))
set_option maxRecDepth 100000 in
theorem lm_241 : (.instanceMethod yX8_init : Cond) ∈ lw_tbl := tb_3 _ (List.mem_of_getElem? (i := 218) (by decide +kernel))
set_option maxRecDepth 100000 in
theorem lm_242 : (.fieldLink RX12 80 "OwnedPlaces" "numbers" "LOwnedPlaces$Queue;" : Cond) ∈ lw_tbl := tb_4 _ (List.mem_of_getElem? (i := 115) (by decide +kernel))
set_option maxRecDepth 100000 in
theorem lm_243 : (.fieldLink RX12 84 "OwnedPlaces" "waiting" "LOwnedPlaces$Queue;" : Cond) ∈ lw_tbl := tb_4 _ (List.mem_of_getElem? (i := 116) (by decide +kernel))
set_option maxRecDepth 100000 in
theorem lm_244 : (.fieldLink RX12 87 "OwnedPlaces" "lastPlace" "I" : Cond) ∈ lw_tbl := tb_4 _ (List.mem_of_getElem? (i := 120) (by decide +kernel))
set_option maxRecDepth 100000 in
theorem lm_245 : (.classLink RX12 91 RX6 : Cond) ∈ lw_tbl := tb_3 _ (List.mem_of_getElem? (i := 235) (by decide +kernel))
set_option maxRecDepth 100000 in
theorem lm_246 : (.initialized RX6 : Cond) ∈ lw_tbl := tb_1 _ (List.mem_of_getElem? (i := 18) (by decide +kernel))
set_option maxRecDepth 100000 in
theorem lm_247 : (.code yX6_init cX6_init 4 none : Cond) ∈ lw_tbl := tb_3 _ (List.mem_of_getElem? (i := 239) (by decide +kernel))
set_option maxRecDepth 100000 in
theorem lm_248 : (.methodLink RX6 3 objectInit : Cond) ∈ lw_tbl := tb_4 _ (List.mem_of_getElem? (i := 0) (by decide +kernel))
set_option maxRecDepth 100000 in
theorem lm_249 : (.fieldLink RX6 9 "OwnedPlaces$Memory" "dropType" "[I" : Cond) ∈ lw_tbl := tb_4 _ (List.mem_of_getElem? (i := 12) (by decide +kernel))
set_option maxRecDepth 100000 in
theorem lm_250 : (.fieldLink RX6 15 "OwnedPlaces$Memory" "dropAt" "[I" : Cond) ∈ lw_tbl := tb_4 _ (List.mem_of_getElem? (i := 13) (by decide +kernel))
set_option maxRecDepth 100000 in
theorem lm_251 : (.fieldLink RX6 18 "OwnedPlaces$Memory" "dropCells" "[I" : Cond) ∈ lw_tbl := tb_4 _ (List.mem_of_getElem? (i := 14) (by decide +kernel))
set_option maxRecDepth 100000 in
theorem lm_252 : (.fieldLink RX6 21 "OwnedPlaces$Memory" "types" "LOwnedPlaces$Types;" : Cond) ∈ lw_tbl := tb_4 _ (List.mem_of_getElem? (i := 1) (by decide +kernel))
set_option maxRecDepth 100000 in
theorem lm_253 : (.fieldLink RX6 25 "OwnedPlaces$Memory" "waiting" "LOwnedPlaces$Queue;" : Cond) ∈ lw_tbl := tb_4 _ (List.mem_of_getElem? (i := 2) (by decide +kernel))
set_option maxRecDepth 100000 in
theorem lm_254 : (.fieldLink RX6 29 "OwnedPlaces$Memory" "heap" "I" : Cond) ∈ lw_tbl := tb_4 _ (List.mem_of_getElem? (i := 3) (by decide +kernel))
set_option maxRecDepth 100000 in
theorem lm_255 : (.fieldLink RX6 33 "OwnedPlaces$Memory" "cells" "[J" : Cond) ∈ lw_tbl := tb_4 _ (List.mem_of_getElem? (i := 4) (by decide +kernel))
set_option maxRecDepth 100000 in
theorem lm_256 : (.fieldLink RX6 37 "OwnedPlaces$Memory" "taken" "[B" : Cond) ∈ lw_tbl := tb_4 _ (List.mem_of_getElem? (i := 6) (by decide +kernel))
set_option maxRecDepth 100000 in
theorem lm_257 : (.methodLink RX12 93 yX6_init : Cond) ∈ lw_tbl := tb_3 _ (List.mem_of_getElem? (i := 237) (by decide +kernel))
set_option maxRecDepth 100000 in
theorem lm_258 : (.instanceMethod yX6_init : Cond) ∈ lw_tbl := tb_3 _ (List.mem_of_getElem? (i := 238) (by decide +kernel))
set_option maxRecDepth 100000 in
theorem lm_259 : (.fieldLink RX12 96 "OwnedPlaces" "memory" "LOwnedPlaces$Memory;" : Cond) ∈ lw_tbl := tb_4 _ (List.mem_of_getElem? (i := 117) (by decide +kernel))
set_option maxRecDepth 100000 in
theorem lm_260 : (.classLink RX12 100 RX5 : Cond) ∈ lw_tbl := tb_4 _ (List.mem_of_getElem? (i := 41) (by decide +kernel))
set_option maxRecDepth 100000 in
theorem lm_261 : (.initialized RX5 : Cond) ∈ lw_tbl := tb_1 _ (List.mem_of_getElem? (i := 19) (by decide +kernel))
set_option maxRecDepth 100000 in
theorem lm_262 : (.code yX5_init cX5_init 7 none : Cond) ∈ lw_tbl := tb_4 _ (List.mem_of_getElem? (i := 45) (by decide +kernel))
set_option maxRecDepth 100000 in
theorem lm_263 : (.methodLink RX5 3 objectInit : Cond) ∈ lw_tbl := tb_4 _ (List.mem_of_getElem? (i := 46) (by decide +kernel))
set_option maxRecDepth 100000 in
theorem lm_264 : (.classLink RX5 9 RX2 : Cond) ∈ lw_tbl := tb_4 _ (List.mem_of_getElem? (i := 47) (by decide +kernel))
set_option maxRecDepth 100000 in
theorem lm_265 : (.fieldLink RX5 11 "OwnedPlaces$Machine" "callers" "[LOwnedPlaces$Function;" : Cond) ∈ lw_tbl := tb_4 _ (List.mem_of_getElem? (i := 63) (by decide +kernel))
set_option maxRecDepth 100000 in
theorem lm_266 : (.fieldLink RX5 17 "OwnedPlaces$Machine" "callerNext" "[I" : Cond) ∈ lw_tbl := tb_4 _ (List.mem_of_getElem? (i := 64) (by decide +kernel))
set_option maxRecDepth 100000 in
theorem lm_267 : (.fieldLink RX5 21 "OwnedPlaces$Machine" "callerBase" "[I" : Cond) ∈ lw_tbl := tb_4 _ (List.mem_of_getElem? (i := 65) (by decide +kernel))
set_option maxRecDepth 100000 in
theorem lm_268 : (.fieldLink RX5 24 "OwnedPlaces$Machine" "filled" "[I" : Cond) ∈ lw_tbl := tb_4 _ (List.mem_of_getElem? (i := 66) (by decide +kernel))
set_option maxRecDepth 100000 in
theorem lm_269 : (.fieldLink RX5 27 "OwnedPlaces$Machine" "code" "LOwnedPlaces$Code;" : Cond) ∈ lw_tbl := tb_4 _ (List.mem_of_getElem? (i := 48) (by decide +kernel))
set_option maxRecDepth 100000 in
theorem lm_270 : (.fieldLink RX5 31 "OwnedPlaces$Machine" "types" "LOwnedPlaces$Types;" : Cond) ∈ lw_tbl := tb_4 _ (List.mem_of_getElem? (i := 49) (by decide +kernel))
set_option maxRecDepth 100000 in
theorem lm_271 : (.fieldLink RX5 35 "OwnedPlaces$Machine" "declared" "LOwnedPlaces$Declarations;" : Cond) ∈ lw_tbl := tb_4 _ (List.mem_of_getElem? (i := 50) (by decide +kernel))
set_option maxRecDepth 100000 in
theorem lm_272 : (.fieldLink RX5 39 "OwnedPlaces$Machine" "memory" "LOwnedPlaces$Memory;" : Cond) ∈ lw_tbl := tb_4 _ (List.mem_of_getElem? (i := 51) (by decide +kernel))
set_option maxRecDepth 100000 in
theorem lm_273 : (.fieldLink RX5 43 "OwnedPlaces$Machine" "numbers" "LOwnedPlaces$Queue;" : Cond) ∈ lw_tbl := tb_4 _ (List.mem_of_getElem? (i := 52) (by decide +kernel))
set_option maxRecDepth 100000 in
theorem lm_274 : (.fieldLink RX5 47 "OwnedPlaces$Machine" "waiting" "LOwnedPlaces$Queue;" : Cond) ∈ lw_tbl := tb_4 _ (List.mem_of_getElem? (i := 53) (by decide +kernel))
set_option maxRecDepth 100000 in
theorem lm_275 : (.methodLink RX12 102 yX5_init : Cond) ∈ lw_tbl := tb_4 _ (List.mem_of_getElem? (i := 43) (by decide +kernel))
set_option maxRecDepth 100000 in
theorem lm_276 : (.instanceMethod yX5_init : Cond) ∈ lw_tbl := tb_4 _ (List.mem_of_getElem? (i := 44) (by decide +kernel))
set_option maxRecDepth 100000 in
theorem lm_277 : (.fieldLink RX12 105 "OwnedPlaces" "machine" "LOwnedPlaces$Machine;" : Cond) ∈ lw_tbl := tb_4 _ (List.mem_of_getElem? (i := 118) (by decide +kernel))
set_option maxRecDepth 100000 in
theorem lm_278 : (.methodLink RL 15 yX12_init : Cond) ∈ lw_tbl := tb_1 _ (List.mem_of_getElem? (i := 34) (by decide +kernel))
set_option maxRecDepth 100000 in
theorem lm_279 : (.instanceMethod yX12_init : Cond) ∈ lw_tbl := tb_1 _ (List.mem_of_getElem? (i := 35) (by decide +kernel))
set_option maxRecDepth 100000 in
theorem lm_280 : (.classLink RL 18 RX23 : Cond) ∈ lw_tbl := tb_8 _ (List.mem_of_getElem? (i := 141) (by decide +kernel))
set_option maxRecDepth 100000 in
theorem lm_281 : (.initialized RX23 : Cond) ∈ lw_tbl := tb_1 _ (List.mem_of_getElem? (i := 20) (by decide +kernel))
set_option maxRecDepth 100000 in
theorem lm_282 : (.code yX23_init cX23_init 2 none : Cond) ∈ lw_tbl := tb_8 _ (List.mem_of_getElem? (i := 145) (by decide +kernel))
set_option maxRecDepth 100000 in
theorem lm_283 : (.methodLink RX23 923 objectInit : Cond) ∈ lw_tbl := tb_8 _ (List.mem_of_getElem? (i := 146) (by decide +kernel))
set_option maxRecDepth 100000 in
theorem lm_284 : (.fieldLink RX23 7 "OwnedPlacesModel" "text" "[I" : Cond) ∈ lw_tbl := tb_8 _ (List.mem_of_getElem? (i := 163) (by decide +kernel))
set_option maxRecDepth 100000 in
theorem lm_285 : (.fieldLink RX23 25 "OwnedPlacesModel" "tokenKind" "[I" : Cond) ∈ lw_tbl := tb_8 _ (List.mem_of_getElem? (i := 168) (by decide +kernel))
set_option maxRecDepth 100000 in
theorem lm_286 : (.fieldLink RX23 31 "OwnedPlacesModel" "tokenAt" "[I" : Cond) ∈ lw_tbl := tb_8 _ (List.mem_of_getElem? (i := 169) (by decide +kernel))
set_option maxRecDepth 100000 in
theorem lm_287 : (.fieldLink RX23 34 "OwnedPlacesModel" "tokenEnd" "[I" : Cond) ∈ lw_tbl := tb_8 _ (List.mem_of_getElem? (i := 170) (by decide +kernel))
set_option maxRecDepth 100000 in
theorem lm_288 : (.fieldLink RX23 37 "OwnedPlacesModel" "tokenNumber" "[J" : Cond) ∈ lw_tbl := tb_8 _ (List.mem_of_getElem? (i := 171) (by decide +kernel))
set_option maxRecDepth 100000 in
theorem lm_289 : (.classLink RX23 140 RX16 : Cond) ∈ lw_tbl := tb_8 _ (List.mem_of_getElem? (i := 147) (by decide +kernel))
set_option maxRecDepth 100000 in
theorem lm_290 : (.fieldLink RX23 232 "OwnedPlacesModel" "items" "[LOwnedPlacesModel$Item;" : Cond) ∈ lw_tbl := tb_8 _ (List.mem_of_getElem? (i := 174) (by decide +kernel))
set_option maxRecDepth 100000 in
theorem lm_291 : (.classLink RX23 164 RX20 : Cond) ∈ lw_tbl := tb_8 _ (List.mem_of_getElem? (i := 149) (by decide +kernel))
set_option maxRecDepth 100000 in
theorem lm_292 : (.fieldLink RX23 385 "OwnedPlacesModel" "types" "[LOwnedPlacesModel$Type;" : Cond) ∈ lw_tbl := tb_8 _ (List.mem_of_getElem? (i := 181) (by decide +kernel))
set_option maxRecDepth 100000 in
theorem lm_293 : (.fieldLink RX23 432 "OwnedPlacesModel" "holds" "[Z" : Cond) ∈ lw_tbl := tb_8 _ (List.mem_of_getElem? (i := 183) (by decide +kernel))
set_option maxRecDepth 100000 in
theorem lm_294 : (.classLink RX23 192 RX21 : Cond) ∈ lw_tbl := tb_8 _ (List.mem_of_getElem? (i := 151) (by decide +kernel))
set_option maxRecDepth 100000 in
theorem lm_295 : (.fieldLink RX23 474 "OwnedPlacesModel" "scope" "[LOwnedPlacesModel$Variable;" : Cond) ∈ lw_tbl := tb_8 _ (List.mem_of_getElem? (i := 185) (by decide +kernel))
set_option maxRecDepth 100000 in
theorem lm_296 : (.fieldLink RX23 625 "OwnedPlacesModel" "kind" "[I" : Cond) ∈ lw_tbl := tb_8 _ (List.mem_of_getElem? (i := 190) (by decide +kernel))
set_option maxRecDepth 100000 in
theorem lm_297 : (.fieldLink RX23 629 "OwnedPlacesModel" "one" "[I" : Cond) ∈ lw_tbl := tb_8 _ (List.mem_of_getElem? (i := 191) (by decide +kernel))
set_option maxRecDepth 100000 in
theorem lm_298 : (.fieldLink RX23 632 "OwnedPlacesModel" "two" "[I" : Cond) ∈ lw_tbl := tb_8 _ (List.mem_of_getElem? (i := 192) (by decide +kernel))
set_option maxRecDepth 100000 in
theorem lm_299 : (.fieldLink RX23 635 "OwnedPlacesModel" "jump" "[I" : Cond) ∈ lw_tbl := tb_8 _ (List.mem_of_getElem? (i := 193) (by decide +kernel))
set_option maxRecDepth 100000 in
theorem lm_300 : (.fieldLink RX23 638 "OwnedPlacesModel" "number" "[J" : Cond) ∈ lw_tbl := tb_8 _ (List.mem_of_getElem? (i := 194) (by decide +kernel))
set_option maxRecDepth 100000 in
theorem lm_301 : (.fieldLink RX23 627 "OwnedPlacesModel" "token" "[I" : Cond) ∈ lw_tbl := tb_8 _ (List.mem_of_getElem? (i := 195) (by decide +kernel))
set_option maxRecDepth 100000 in
theorem lm_302 : (.fieldLink RX23 640 "OwnedPlacesModel" "access" "[I" : Cond) ∈ lw_tbl := tb_8 _ (List.mem_of_getElem? (i := 196) (by decide +kernel))
set_option maxRecDepth 100000 in
theorem lm_303 : (.fieldLink RX23 643 "OwnedPlacesModel" "holder" "[I" : Cond) ∈ lw_tbl := tb_8 _ (List.mem_of_getElem? (i := 197) (by decide +kernel))
set_option maxRecDepth 100000 in
theorem lm_304 : (.fieldLink RX23 646 "OwnedPlacesModel" "loan" "[I" : Cond) ∈ lw_tbl := tb_8 _ (List.mem_of_getElem? (i := 198) (by decide +kernel))
set_option maxRecDepth 100000 in
theorem lm_305 : (.classLink RX23 926 "[I" : Cond) ∈ lw_tbl := tb_8 _ (List.mem_of_getElem? (i := 153) (by decide +kernel))
set_option maxRecDepth 100000 in
theorem lm_306 : (.fieldLink RX23 649 "OwnedPlacesModel" "from" "[[I" : Cond) ∈ lw_tbl := tb_8 _ (List.mem_of_getElem? (i := 199) (by decide +kernel))
set_option maxRecDepth 100000 in
theorem lm_307 : (.fieldLink RX23 653 "OwnedPlacesModel" "used" "[[I" : Cond) ∈ lw_tbl := tb_8 _ (List.mem_of_getElem? (i := 200) (by decide +kernel))
set_option maxRecDepth 100000 in
theorem lm_308 : (.classLink RX23 678 RX18 : Cond) ∈ lw_tbl := tb_8 _ (List.mem_of_getElem? (i := 155) (by decide +kernel))
set_option maxRecDepth 100000 in
theorem lm_309 : (.fieldLink RX23 656 "OwnedPlacesModel" "path" "[LOwnedPlacesModel$Path;" : Cond) ∈ lw_tbl := tb_8 _ (List.mem_of_getElem? (i := 201) (by decide +kernel))
set_option maxRecDepth 100000 in
theorem lm_310 : (.fieldLink RX23 660 "OwnedPlacesModel" "ofType" "[LOwnedPlacesModel$Type;" : Cond) ∈ lw_tbl := tb_8 _ (List.mem_of_getElem? (i := 202) (by decide +kernel))
set_option maxRecDepth 100000 in
theorem lm_311 : (.fieldLink RX23 663 "OwnedPlacesModel" "variable" "[LOwnedPlacesModel$Variable;" : Cond) ∈ lw_tbl := tb_8 _ (List.mem_of_getElem? (i := 203) (by decide +kernel))
set_option maxRecDepth 100000 in
theorem lm_312 : (.classLink RX23 315 RX13 : Cond) ∈ lw_tbl := tb_8 _ (List.mem_of_getElem? (i := 157) (by decide +kernel))
set_option maxRecDepth 100000 in
theorem lm_313 : (.fieldLink RX23 665 "OwnedPlacesModel" "armOf" "[LOwnedPlacesModel$Arm;" : Cond) ∈ lw_tbl := tb_8 _ (List.mem_of_getElem? (i := 204) (by decide +kernel))
set_option maxRecDepth 100000 in
theorem lm_314 : (.fieldLink RX23 668 "OwnedPlacesModel" "targets" "[[I" : Cond) ∈ lw_tbl := tb_8 _ (List.mem_of_getElem? (i := 205) (by decide +kernel))
set_option maxRecDepth 100000 in
theorem lm_315 : (.fieldLink RX23 720 "OwnedPlacesModel" "loanPath" "[LOwnedPlacesModel$Path;" : Cond) ∈ lw_tbl := tb_8 _ (List.mem_of_getElem? (i := 206) (by decide +kernel))
set_option maxRecDepth 100000 in
theorem lm_316 : (.fieldLink RX23 726 "OwnedPlacesModel" "loanShared" "[Z" : Cond) ∈ lw_tbl := tb_8 _ (List.mem_of_getElem? (i := 207) (by decide +kernel))
set_option maxRecDepth 100000 in
theorem lm_317 : (.fieldLink RX23 729 "OwnedPlacesModel" "outerOf" "[I" : Cond) ∈ lw_tbl := tb_8 _ (List.mem_of_getElem? (i := 208) (by decide +kernel))
set_option maxRecDepth 100000 in
theorem lm_318 : (.fieldLink RX23 810 "OwnedPlacesModel" "outerLife" "[I" : Cond) ∈ lw_tbl := tb_8 _ (List.mem_of_getElem? (i := 209) (by decide +kernel))
set_option maxRecDepth 100000 in
theorem lm_319 : (.fieldLink RX23 763 "OwnedPlacesModel" "alive" "[LOwnedPlacesModel$Variable;" : Cond) ∈ lw_tbl := tb_8 _ (List.mem_of_getElem? (i := 212) (by decide +kernel))
set_option maxRecDepth 100000 in
theorem lm_320 : (.fieldLink RX23 671 "OwnedPlacesModel" "single" "[[I" : Cond) ∈ lw_tbl := tb_8 _ (List.mem_of_getElem? (i := 214) (by decide +kernel))
set_option maxRecDepth 100000 in
theorem lm_321 : (.fieldLink RX23 814 "OwnedPlacesModel" "reached" "[Z" : Cond) ∈ lw_tbl := tb_8 _ (List.mem_of_getElem? (i := 215) (by decide +kernel))
set_option maxRecDepth 100000 in
theorem lm_322 : (.constant RX23 927 240000 : Cond) ∈ lw_tbl := tb_8 _ (List.mem_of_getElem? (i := 159) (by decide +kernel))
set_option maxRecDepth 100000 in
theorem lm_323 : (.fieldLink RX23 838 "OwnedPlacesModel" "without" "[J" : Cond) ∈ lw_tbl := tb_8 _ (List.mem_of_getElem? (i := 216) (by decide +kernel))
set_option maxRecDepth 100000 in
theorem lm_324 : (.fieldLink RX23 841 "OwnedPlacesModel" "having" "[J" : Cond) ∈ lw_tbl := tb_8 _ (List.mem_of_getElem? (i := 217) (by decide +kernel))
set_option maxRecDepth 100000 in
theorem lm_325 : (.fieldLink RX23 835 "OwnedPlacesModel" "outWithout" "[J" : Cond) ∈ lw_tbl := tb_8 _ (List.mem_of_getElem? (i := 218) (by decide +kernel))
set_option maxRecDepth 100000 in
theorem lm_326 : (.fieldLink RX23 828 "OwnedPlacesModel" "outHaving" "[J" : Cond) ∈ lw_tbl := tb_8 _ (List.mem_of_getElem? (i := 219) (by decide +kernel))
set_option maxRecDepth 100000 in
theorem lm_327 : (.constant RX23 928 96000 : Cond) ∈ lw_tbl := tb_8 _ (List.mem_of_getElem? (i := 160) (by decide +kernel))
set_option maxRecDepth 100000 in
theorem lm_328 : (.fieldLink RX23 876 "OwnedPlacesModel" "lives" "[J" : Cond) ∈ lw_tbl := tb_8 _ (List.mem_of_getElem? (i := 221) (by decide +kernel))
set_option maxRecDepth 100000 in
theorem lm_329 : (.fieldLink RX23 884 "OwnedPlacesModel" "holding" "[J" : Cond) ∈ lw_tbl := tb_8 _ (List.mem_of_getElem? (i := 222) (by decide +kernel))
set_option maxRecDepth 100000 in
theorem lm_330 : (.fieldLink RX23 881 "OwnedPlacesModel" "behind" "[J" : Cond) ∈ lw_tbl := tb_8 _ (List.mem_of_getElem? (i := 223) (by decide +kernel))
set_option maxRecDepth 100000 in
theorem lm_331 : (.constant RX23 929 430000 : Cond) ∈ lw_tbl := tb_8 _ (List.mem_of_getElem? (i := 161) (by decide +kernel))
set_option maxRecDepth 100000 in
theorem lm_332 : (.fieldLink RX23 930 "OwnedPlacesModel" "worth" "[J" : Cond) ∈ lw_tbl := tb_8 _ (List.mem_of_getElem? (i := 224) (by decide +kernel))
set_option maxRecDepth 100000 in
theorem lm_333 : (.fieldLink RX23 933 "OwnedPlacesModel" "has" "[Z" : Cond) ∈ lw_tbl := tb_8 _ (List.mem_of_getElem? (i := 225) (by decide +kernel))
set_option maxRecDepth 100000 in
theorem lm_334 : (.fieldLink RX23 936 "OwnedPlacesModel" "next" "[I" : Cond) ∈ lw_tbl := tb_8 _ (List.mem_of_getElem? (i := 226) (by decide +kernel))
set_option maxRecDepth 100000 in
theorem lm_335 : (.fieldLink RX23 939 "OwnedPlacesModel" "taken" "[Z" : Cond) ∈ lw_tbl := tb_8 _ (List.mem_of_getElem? (i := 230) (by decide +kernel))
set_option maxRecDepth 100000 in
theorem lm_336 : (.fieldLink RX23 942 "OwnedPlacesModel" "stack" "[J" : Cond) ∈ lw_tbl := tb_8 _ (List.mem_of_getElem? (i := 235) (by decide +kernel))
set_option maxRecDepth 100000 in
theorem lm_337 : (.fieldLink RX23 945 "OwnedPlacesModel" "place" "[I" : Cond) ∈ lw_tbl := tb_8 _ (List.mem_of_getElem? (i := 237) (by decide +kernel))
set_option maxRecDepth 100000 in
theorem lm_338 : (.fieldLink RX23 947 "OwnedPlacesModel" "frameBack" "[I" : Cond) ∈ lw_tbl := tb_8 _ (List.mem_of_getElem? (i := 238) (by decide +kernel))
set_option maxRecDepth 100000 in
theorem lm_339 : (.constant RX23 950 90000 : Cond) ∈ lw_tbl := tb_8 _ (List.mem_of_getElem? (i := 162) (by decide +kernel))
set_option maxRecDepth 100000 in
theorem lm_340 : (.fieldLink RX23 951 "OwnedPlacesModel" "doWhat" "[I" : Cond) ∈ lw_tbl := tb_9 _ (List.mem_of_getElem? (i := 1) (by decide +kernel))
set_option maxRecDepth 100000 in
theorem lm_341 : (.fieldLink RX23 954 "OwnedPlacesModel" "doType" "[I" : Cond) ∈ lw_tbl := tb_9 _ (List.mem_of_getElem? (i := 2) (by decide +kernel))
set_option maxRecDepth 100000 in
theorem lm_342 : (.fieldLink RX23 957 "OwnedPlacesModel" "doNode" "[I" : Cond) ∈ lw_tbl := tb_9 _ (List.mem_of_getElem? (i := 3) (by decide +kernel))
set_option maxRecDepth 100000 in
theorem lm_343 : (.fieldLink RX23 960 "OwnedPlacesModel" "waiting" "[I" : Cond) ∈ lw_tbl := tb_9 _ (List.mem_of_getElem? (i := 5) (by decide +kernel))
set_option maxRecDepth 100000 in
theorem lm_344 : (.fieldLink RX23 963 "OwnedPlacesModel" "inputs" "[J" : Cond) ∈ lw_tbl := tb_9 _ (List.mem_of_getElem? (i := 8) (by decide +kernel))
set_option maxRecDepth 100000 in
theorem lm_345 : (.fieldLink RX23 966 "OwnedPlacesModel" "told" "I" : Cond) ∈ lw_tbl := tb_9 _ (List.mem_of_getElem? (i := 10) (by decide +kernel))
set_option maxRecDepth 100000 in
theorem lm_346 : (.fieldLink RX23 968 "OwnedPlacesModel" "heapLong" "I" : Cond) ∈ lw_tbl := tb_8 _ (List.mem_of_getElem? (i := 229) (by decide +kernel))
set_option maxRecDepth 100000 in
theorem lm_347 : (.methodLink RL 20 yX23_init : Cond) ∈ lw_tbl := tb_8 _ (List.mem_of_getElem? (i := 143) (by decide +kernel))
set_option maxRecDepth 100000 in
theorem lm_348 : (.instanceMethod yX23_init : Cond) ∈ lw_tbl := tb_8 _ (List.mem_of_getElem? (i := 144) (by decide +kernel))
set_option maxRecDepth 100000 in
theorem lm_349 : (.code yX12_feed cX12_feed 6 (some .boolean) : Cond) ∈ lw_tbl := tb_4 _ (List.mem_of_getElem? (i := 153) (by decide +kernel))
set_option maxRecDepth 100000 in
theorem lm_350 : (.fieldLink RX12 109 "OwnedPlaces$Text" "length" "I" : Cond) ∈ lw_tbl := tb_1 _ (List.mem_of_getElem? (i := 134) (by decide +kernel))
set_option maxRecDepth 100000 in
theorem lm_351 : (.code yX9_append cX9_append 3 none : Cond) ∈ lw_tbl := tb_4 _ (List.mem_of_getElem? (i := 157) (by decide +kernel))
set_option maxRecDepth 100000 in
theorem lm_352 : (.fieldLink RX9 81 "OwnedPlaces$Text" "length" "I" : Cond) ∈ lw_tbl := tb_1 _ (List.mem_of_getElem? (i := 135) (by decide +kernel))
set_option maxRecDepth 100000 in
theorem lm_353 : (.methodLink RX12 112 yX9_append : Cond) ∈ lw_tbl := tb_4 _ (List.mem_of_getElem? (i := 154) (by decide +kernel))
set_option maxRecDepth 100000 in
theorem lm_354 : (.instanceMethod yX9_append : Cond) ∈ lw_tbl := tb_4 _ (List.mem_of_getElem? (i := 155) (by decide +kernel))
set_option maxRecDepth 100000 in
theorem lm_355 : (.selects RX9 yX9_append yX9_append : Cond) ∈ lw_tbl := tb_4 _ (List.mem_of_getElem? (i := 156) (by decide +kernel))
set_option maxRecDepth 100000 in
theorem lm_356 : (.methodLink RL 21 yX12_feed : Cond) ∈ lw_tbl := tb_4 _ (List.mem_of_getElem? (i := 150) (by decide +kernel))
set_option maxRecDepth 100000 in
theorem lm_357 : (.instanceMethod yX12_feed : Cond) ∈ lw_tbl := tb_4 _ (List.mem_of_getElem? (i := 151) (by decide +kernel))
set_option maxRecDepth 100000 in
theorem lm_358 : (.selects RX12 yX12_feed yX12_feed : Cond) ∈ lw_tbl := tb_4 _ (List.mem_of_getElem? (i := 152) (by decide +kernel))
set_option maxRecDepth 100000 in
theorem lm_359 : (.code yX23_feed cX23_feed 6 (some .boolean) : Cond) ∈ lw_tbl := tb_9 _ (List.mem_of_getElem? (i := 193) (by decide +kernel))
set_option maxRecDepth 100000 in
theorem lm_360 : (.fieldLink RX23 1167 "OwnedPlacesModel" "length" "I" : Cond) ∈ lw_tbl := tb_8 _ (List.mem_of_getElem? (i := 164) (by decide +kernel))
set_option maxRecDepth 100000 in
theorem lm_361 : (.code yX23_feedWord cX23_feedWord 3 none : Cond) ∈ lw_tbl := tb_9 _ (List.mem_of_getElem? (i := 197) (by decide +kernel))
set_option maxRecDepth 100000 in
theorem lm_362 : (.methodLink RX23 1170 yX23_feedWord : Cond) ∈ lw_tbl := tb_9 _ (List.mem_of_getElem? (i := 194) (by decide +kernel))
set_option maxRecDepth 100000 in
theorem lm_363 : (.instanceMethod yX23_feedWord : Cond) ∈ lw_tbl := tb_9 _ (List.mem_of_getElem? (i := 196) (by decide +kernel))
set_option maxRecDepth 100000 in
theorem lm_364 : (.selects RX23 yX23_feedWord yX23_feedWord : Cond) ∈ lw_tbl := List.mem_append_left _ (List.mem_of_getElem? (i := 8) (by decide +kernel))
set_option maxRecDepth 100000 in
theorem lm_365 : (.methodLink RL 25 yX23_feed : Cond) ∈ lw_tbl := tb_9 _ (List.mem_of_getElem? (i := 190) (by decide +kernel))
set_option maxRecDepth 100000 in
theorem lm_366 : (.instanceMethod yX23_feed : Cond) ∈ lw_tbl := tb_9 _ (List.mem_of_getElem? (i := 191) (by decide +kernel))
set_option maxRecDepth 100000 in
theorem lm_367 : (.selects RX23 yX23_feed yX23_feed : Cond) ∈ lw_tbl := tb_9 _ (List.mem_of_getElem? (i := 192) (by decide +kernel))
set_option maxRecDepth 100000 in
theorem lm_368 : (.constantLong RL 26 4294967295 : Cond) ∈ lw_tbl := tb_14 _ (List.mem_of_getElem? (i := 141) (by decide +kernel))
set_option maxRecDepth 100000 in
theorem lm_369 : (.code yX12_input cX12_input 3 (some .boolean) : Cond) ∈ lw_tbl := tb_4 _ (List.mem_of_getElem? (i := 161) (by decide +kernel))
set_option maxRecDepth 100000 in
theorem lm_370 : (.code yX8_put cX8_put 3 (some .boolean) : Cond) ∈ lw_tbl := tb_4 _ (List.mem_of_getElem? (i := 165) (by decide +kernel))
set_option maxRecDepth 100000 in
theorem lm_371 : (.fieldLink RX8 17 "OwnedPlaces$Queue" "size" "I" : Cond) ∈ lw_tbl := tb_3 _ (List.mem_of_getElem? (i := 224) (by decide +kernel))
set_option maxRecDepth 100000 in
theorem lm_372 : (.fieldLink RX8 21 "OwnedPlaces$Queue" "first" "I" : Cond) ∈ lw_tbl := tb_3 _ (List.mem_of_getElem? (i := 223) (by decide +kernel))
set_option maxRecDepth 100000 in
theorem lm_373 : (.methodLink RX12 115 yX8_put : Cond) ∈ lw_tbl := tb_4 _ (List.mem_of_getElem? (i := 162) (by decide +kernel))
set_option maxRecDepth 100000 in
theorem lm_374 : (.instanceMethod yX8_put : Cond) ∈ lw_tbl := tb_4 _ (List.mem_of_getElem? (i := 163) (by decide +kernel))
set_option maxRecDepth 100000 in
theorem lm_375 : (.selects RX8 yX8_put yX8_put : Cond) ∈ lw_tbl := tb_4 _ (List.mem_of_getElem? (i := 164) (by decide +kernel))
set_option maxRecDepth 100000 in
theorem lm_376 : (.methodLink RL 28 yX12_input : Cond) ∈ lw_tbl := tb_4 _ (List.mem_of_getElem? (i := 158) (by decide +kernel))
set_option maxRecDepth 100000 in
theorem lm_377 : (.instanceMethod yX12_input : Cond) ∈ lw_tbl := tb_4 _ (List.mem_of_getElem? (i := 159) (by decide +kernel))
set_option maxRecDepth 100000 in
theorem lm_378 : (.selects RX12 yX12_input yX12_input : Cond) ∈ lw_tbl := tb_4 _ (List.mem_of_getElem? (i := 160) (by decide +kernel))
set_option maxRecDepth 100000 in
theorem lm_379 : (.code yX23_input cX23_input 3 (some .boolean) : Cond) ∈ lw_tbl := tb_9 _ (List.mem_of_getElem? (i := 201) (by decide +kernel))
set_option maxRecDepth 100000 in
theorem lm_380 : (.fieldLink RX23 1113 "OwnedPlacesModel" "inputMany" "I" : Cond) ∈ lw_tbl := tb_9 _ (List.mem_of_getElem? (i := 9) (by decide +kernel))
set_option maxRecDepth 100000 in
theorem lm_381 : (.methodLink RL 32 yX23_input : Cond) ∈ lw_tbl := tb_9 _ (List.mem_of_getElem? (i := 198) (by decide +kernel))
set_option maxRecDepth 100000 in
theorem lm_382 : (.instanceMethod yX23_input : Cond) ∈ lw_tbl := tb_9 _ (List.mem_of_getElem? (i := 199) (by decide +kernel))
set_option maxRecDepth 100000 in
theorem lm_383 : (.selects RX23 yX23_input yX23_input : Cond) ∈ lw_tbl := tb_9 _ (List.mem_of_getElem? (i := 200) (by decide +kernel))
set_option maxRecDepth 100000 in
theorem lm_384 : (.code yX12_run cX12_run 4 (some .int) : Cond) ∈ lw_tbl := tb_4 _ (List.mem_of_getElem? (i := 169) (by decide +kernel))
set_option maxRecDepth 100000 in
theorem lm_385 : (.code yX6_clear cX6_clear 1 none : Cond) ∈ lw_tbl := tb_4 _ (List.mem_of_getElem? (i := 173) (by decide +kernel))
set_option maxRecDepth 100000 in
theorem lm_386 : (.code yJ7_fill_031fb cJ7_fill_031fb 4 none : Cond) ∈ lw_tbl := tb_4 _ (List.mem_of_getElem? (i := 176) (by decide +kernel))
set_option maxRecDepth 100000 in
theorem lm_387 : (.methodLink RX6 41 yJ7_fill_031fb : Cond) ∈ lw_tbl := tb_4 _ (List.mem_of_getElem? (i := 174) (by decide +kernel))
set_option maxRecDepth 100000 in
theorem lm_388 : (.static yJ7_fill_031fb : Cond) ∈ lw_tbl := tb_4 _ (List.mem_of_getElem? (i := 175) (by decide +kernel))
set_option maxRecDepth 100000 in
theorem lm_389 : (.fieldLink RX6 47 "OwnedPlaces$Memory" "lowest" "I" : Cond) ∈ lw_tbl := tb_4 _ (List.mem_of_getElem? (i := 7) (by decide +kernel))
set_option maxRecDepth 100000 in
theorem lm_390 : (.fieldLink RX6 50 "OwnedPlaces$Memory" "inUse" "I" : Cond) ∈ lw_tbl := tb_4 _ (List.mem_of_getElem? (i := 8) (by decide +kernel))
set_option maxRecDepth 100000 in
theorem lm_391 : (.fieldLink RX6 53 "OwnedPlaces$Memory" "mostInUse" "I" : Cond) ∈ lw_tbl := tb_4 _ (List.mem_of_getElem? (i := 10) (by decide +kernel))
set_option maxRecDepth 100000 in
theorem lm_392 : (.methodLink RX12 119 yX6_clear : Cond) ∈ lw_tbl := tb_4 _ (List.mem_of_getElem? (i := 170) (by decide +kernel))
set_option maxRecDepth 100000 in
theorem lm_393 : (.instanceMethod yX6_clear : Cond) ∈ lw_tbl := tb_4 _ (List.mem_of_getElem? (i := 171) (by decide +kernel))
set_option maxRecDepth 100000 in
theorem lm_394 : (.selects RX6 yX6_clear yX6_clear : Cond) ∈ lw_tbl := tb_4 _ (List.mem_of_getElem? (i := 172) (by decide +kernel))
set_option maxRecDepth 100000 in
theorem lm_395 : (.code yX12_lookOver cX12_lookOver 5 none : Cond) ∈ lw_tbl := tb_4 _ (List.mem_of_getElem? (i := 180) (by decide +kernel))
set_option maxRecDepth 100000 in
theorem lm_396 : (.code yX9_read cX9_read 4 none : Cond) ∈ lw_tbl := tb_4 _ (List.mem_of_getElem? (i := 184) (by decide +kernel))
set_option maxRecDepth 100000 in
theorem lm_397 : (.fieldLink RX9 92 "OwnedPlaces$Text" "total" "I" : Cond) ∈ lw_tbl := tb_1 _ (List.mem_of_getElem? (i := 149) (by decide +kernel))
set_option maxRecDepth 100000 in
theorem lm_398 : (.fieldLink RX9 95 "OwnedPlaces$Text" "fault" "I" : Cond) ∈ lw_tbl := tb_1 _ (List.mem_of_getElem? (i := 142) (by decide +kernel))
set_option maxRecDepth 100000 in
theorem lm_399 : (.code yX9_add cX9_add 4 none : Cond) ∈ lw_tbl := tb_4 _ (List.mem_of_getElem? (i := 200) (by decide +kernel))
set_option maxRecDepth 100000 in
theorem lm_400 : (.methodLink RX9 102 yX9_add : Cond) ∈ lw_tbl := tb_4 _ (List.mem_of_getElem? (i := 197) (by decide +kernel))
set_option maxRecDepth 100000 in
theorem lm_401 : (.instanceMethod yX9_add : Cond) ∈ lw_tbl := tb_4 _ (List.mem_of_getElem? (i := 199) (by decide +kernel))
set_option maxRecDepth 100000 in
theorem lm_402 : (.selects RX9 yX9_add yX9_add : Cond) ∈ lw_tbl := List.mem_append_left _ (List.mem_of_getElem? (i := 4) (by decide +kernel))
set_option maxRecDepth 100000 in
theorem lm_403 : (.fieldLink RX9 106 "OwnedPlaces$Text" "now" "I" : Cond) ∈ lw_tbl := tb_1 _ (List.mem_of_getElem? (i := 137) (by decide +kernel))
set_option maxRecDepth 100000 in
theorem lm_404 : (.methodLink RX12 162 yX9_read : Cond) ∈ lw_tbl := tb_4 _ (List.mem_of_getElem? (i := 181) (by decide +kernel))
set_option maxRecDepth 100000 in
theorem lm_405 : (.instanceMethod yX9_read : Cond) ∈ lw_tbl := tb_4 _ (List.mem_of_getElem? (i := 182) (by decide +kernel))
set_option maxRecDepth 100000 in
theorem lm_406 : (.selects RX9 yX9_read yX9_read : Cond) ∈ lw_tbl := tb_4 _ (List.mem_of_getElem? (i := 183) (by decide +kernel))
set_option maxRecDepth 100000 in
theorem lm_407 : (.code yX3_program cX3_program 3 none : Cond) ∈ lw_tbl := tb_4 _ (List.mem_of_getElem? (i := 234) (by decide +kernel))
set_option maxRecDepth 100000 in
theorem lm_408 : (.fieldLink RX3 19 "OwnedPlaces$Grammar" "total" "I" : Cond) ∈ lw_tbl := tb_1 _ (List.mem_of_getElem? (i := 205) (by decide +kernel))
set_option maxRecDepth 100000 in
theorem lm_409 : (.fieldLink RX3 23 "OwnedPlaces$Grammar" "shapes" "I" : Cond) ∈ lw_tbl := tb_1 _ (List.mem_of_getElem? (i := 207) (by decide +kernel))
set_option maxRecDepth 100000 in
theorem lm_410 : (.fieldLink RX3 26 "OwnedPlaces$Grammar" "functions" "I" : Cond) ∈ lw_tbl := tb_1 _ (List.mem_of_getElem? (i := 208) (by decide +kernel))
set_option maxRecDepth 100000 in
theorem lm_411 : (.code yX9_kind cX9_kind 1 (some .int) : Cond) ∈ lw_tbl := tb_4 _ (List.mem_of_getElem? (i := 238) (by decide +kernel))
set_option maxRecDepth 100000 in
theorem lm_412 : (.methodLink RX3 29 yX9_kind : Cond) ∈ lw_tbl := tb_4 _ (List.mem_of_getElem? (i := 235) (by decide +kernel))
set_option maxRecDepth 100000 in
theorem lm_413 : (.instanceMethod yX9_kind : Cond) ∈ lw_tbl := tb_4 _ (List.mem_of_getElem? (i := 236) (by decide +kernel))
set_option maxRecDepth 100000 in
theorem lm_414 : (.selects RX9 yX9_kind yX9_kind : Cond) ∈ lw_tbl := tb_4 _ (List.mem_of_getElem? (i := 237) (by decide +kernel))
set_option maxRecDepth 100000 in
theorem lm_415 : (.methodLink RX12 165 yX3_program : Cond) ∈ lw_tbl := tb_4 _ (List.mem_of_getElem? (i := 231) (by decide +kernel))
set_option maxRecDepth 100000 in
theorem lm_416 : (.instanceMethod yX3_program : Cond) ∈ lw_tbl := tb_4 _ (List.mem_of_getElem? (i := 232) (by decide +kernel))
set_option maxRecDepth 100000 in
theorem lm_417 : (.selects RX3 yX3_program yX3_program : Cond) ∈ lw_tbl := tb_4 _ (List.mem_of_getElem? (i := 233) (by decide +kernel))
set_option maxRecDepth 100000 in
theorem lm_418 : (.fieldLink RX12 131 "OwnedPlaces$Text" "fault" "I" : Cond) ∈ lw_tbl := tb_1 _ (List.mem_of_getElem? (i := 143) (by decide +kernel))
set_option maxRecDepth 100000 in
theorem lm_419 : (.code yX1_read cX1_read 3 none : Cond) ∈ lw_tbl := tb_5 _ (List.mem_of_getElem? (i := 148) (by decide +kernel))
set_option maxRecDepth 100000 in
theorem lm_420 : (.fieldLink RX1 30 "OwnedPlaces$Declarations" "total" "I" : Cond) ∈ lw_tbl := tb_2 _ (List.mem_of_getElem? (i := 194) (by decide +kernel))
set_option maxRecDepth 100000 in
theorem lm_421 : (.code yX10_clear cX10_clear 2 none : Cond) ∈ lw_tbl := tb_5 _ (List.mem_of_getElem? (i := 152) (by decide +kernel))
set_option maxRecDepth 100000 in
theorem lm_422 : (.fieldLink RX10 55 "OwnedPlaces$Types" "shapes" "I" : Cond) ∈ lw_tbl := tb_2 _ (List.mem_of_getElem? (i := 11) (by decide +kernel))
set_option maxRecDepth 100000 in
theorem lm_423 : (.fieldLink RX10 59 "OwnedPlaces$Types" "total" "I" : Cond) ∈ lw_tbl := tb_2 _ (List.mem_of_getElem? (i := 10) (by decide +kernel))
set_option maxRecDepth 100000 in
theorem lm_424 : (.code yX10_make cX10_make 4 (some .int) : Cond) ∈ lw_tbl := tb_5 _ (List.mem_of_getElem? (i := 156) (by decide +kernel))
set_option maxRecDepth 100000 in
theorem lm_425 : (.methodLink RX10 62 yX10_make : Cond) ∈ lw_tbl := tb_5 _ (List.mem_of_getElem? (i := 153) (by decide +kernel))
set_option maxRecDepth 100000 in
theorem lm_426 : (.instanceMethod yX10_make : Cond) ∈ lw_tbl := tb_5 _ (List.mem_of_getElem? (i := 155) (by decide +kernel))
set_option maxRecDepth 100000 in
theorem lm_427 : (.selects RX10 yX10_make yX10_make : Cond) ∈ lw_tbl := List.mem_append_left _ (List.mem_of_getElem? (i := 5) (by decide +kernel))
set_option maxRecDepth 100000 in
theorem lm_428 : (.methodLink RX1 34 yX10_clear : Cond) ∈ lw_tbl := tb_5 _ (List.mem_of_getElem? (i := 149) (by decide +kernel))
set_option maxRecDepth 100000 in
theorem lm_429 : (.instanceMethod yX10_clear : Cond) ∈ lw_tbl := tb_5 _ (List.mem_of_getElem? (i := 150) (by decide +kernel))
set_option maxRecDepth 100000 in
theorem lm_430 : (.selects RX10 yX10_clear yX10_clear : Cond) ∈ lw_tbl := tb_5 _ (List.mem_of_getElem? (i := 151) (by decide +kernel))
set_option maxRecDepth 100000 in
theorem lm_431 : (.fieldLink RX1 39 "OwnedPlaces$Text" "nameTotal" "I" : Cond) ∈ lw_tbl := tb_1 _ (List.mem_of_getElem? (i := 146) (by decide +kernel))
set_option maxRecDepth 100000 in
theorem lm_432 : (.code yJ7_fill_fda19 cJ7_fill_fda19 5 none : Cond) ∈ lw_tbl := tb_5 _ (List.mem_of_getElem? (i := 159) (by decide +kernel))
set_option maxRecDepth 100000 in
theorem lm_433 : (.code yJ7_rangeCheck_23922 cJ7_rangeCheck_23922 3 none : Cond) ∈ lw_tbl := tb_5 _ (List.mem_of_getElem? (i := 162) (by decide +kernel))
set_option maxRecDepth 100000 in
theorem lm_434 : (.methodLink RJ7 13 yJ7_rangeCheck_23922 : Cond) ∈ lw_tbl := tb_5 _ (List.mem_of_getElem? (i := 160) (by decide +kernel))
set_option maxRecDepth 100000 in
theorem lm_435 : (.static yJ7_rangeCheck_23922 : Cond) ∈ lw_tbl := tb_5 _ (List.mem_of_getElem? (i := 161) (by decide +kernel))
set_option maxRecDepth 100000 in
theorem lm_436 : (.methodLink RX1 44 yJ7_fill_fda19 : Cond) ∈ lw_tbl := tb_5 _ (List.mem_of_getElem? (i := 157) (by decide +kernel))
set_option maxRecDepth 100000 in
theorem lm_437 : (.static yJ7_fill_fda19 : Cond) ∈ lw_tbl := tb_5 _ (List.mem_of_getElem? (i := 158) (by decide +kernel))
set_option maxRecDepth 100000 in
theorem lm_438 : (.fieldLink RX1 50 "OwnedPlaces$Grammar" "total" "I" : Cond) ∈ lw_tbl := tb_1 _ (List.mem_of_getElem? (i := 206) (by decide +kernel))
set_option maxRecDepth 100000 in
theorem lm_439 : (.fieldLink RX1 53 "OwnedPlaces$Text" "fault" "I" : Cond) ∈ lw_tbl := tb_1 _ (List.mem_of_getElem? (i := 141) (by decide +kernel))
set_option maxRecDepth 100000 in
theorem lm_440 : (.code yX10_measure cX10_measure 3 none : Cond) ∈ lw_tbl := tb_6 _ (List.mem_of_getElem? (i := 24) (by decide +kernel))
set_option maxRecDepth 100000 in
theorem lm_441 : (.methodLink RX1 66 yX10_measure : Cond) ∈ lw_tbl := tb_6 _ (List.mem_of_getElem? (i := 21) (by decide +kernel))
set_option maxRecDepth 100000 in
theorem lm_442 : (.instanceMethod yX10_measure : Cond) ∈ lw_tbl := tb_6 _ (List.mem_of_getElem? (i := 22) (by decide +kernel))
set_option maxRecDepth 100000 in
theorem lm_443 : (.selects RX10 yX10_measure yX10_measure : Cond) ∈ lw_tbl := tb_6 _ (List.mem_of_getElem? (i := 23) (by decide +kernel))
set_option maxRecDepth 100000 in
theorem lm_444 : (.code yX1_checkSizes cX1_checkSizes 3 none : Cond) ∈ lw_tbl := tb_6 _ (List.mem_of_getElem? (i := 40) (by decide +kernel))
set_option maxRecDepth 100000 in
theorem lm_445 : (.fieldLink RX1 207 "OwnedPlaces$Types" "shapes" "I" : Cond) ∈ lw_tbl := tb_2 _ (List.mem_of_getElem? (i := 12) (by decide +kernel))
set_option maxRecDepth 100000 in
theorem lm_446 : (.methodLink RX1 69 yX1_checkSizes : Cond) ∈ lw_tbl := tb_6 _ (List.mem_of_getElem? (i := 37) (by decide +kernel))
set_option maxRecDepth 100000 in
theorem lm_447 : (.instanceMethod yX1_checkSizes : Cond) ∈ lw_tbl := tb_6 _ (List.mem_of_getElem? (i := 39) (by decide +kernel))
set_option maxRecDepth 100000 in
theorem lm_448 : (.selects RX1 yX1_checkSizes yX1_checkSizes : Cond) ∈ lw_tbl := List.mem_append_left _ (List.mem_of_getElem? (i := 6) (by decide +kernel))
set_option maxRecDepth 100000 in
theorem lm_449 : (.code yX1_checkMain cX1_checkMain 2 none : Cond) ∈ lw_tbl := tb_6 _ (List.mem_of_getElem? (i := 44) (by decide +kernel))
set_option maxRecDepth 100000 in
theorem lm_450 : (.code yX1_functionOf cX1_functionOf 2 (some .int) : Cond) ∈ lw_tbl := tb_6 _ (List.mem_of_getElem? (i := 48) (by decide +kernel))
set_option maxRecDepth 100000 in
theorem lm_451 : (.methodLink RX1 216 yX1_functionOf : Cond) ∈ lw_tbl := tb_6 _ (List.mem_of_getElem? (i := 45) (by decide +kernel))
set_option maxRecDepth 100000 in
theorem lm_452 : (.instanceMethod yX1_functionOf : Cond) ∈ lw_tbl := tb_6 _ (List.mem_of_getElem? (i := 46) (by decide +kernel))
set_option maxRecDepth 100000 in
theorem lm_453 : (.selects RX1 yX1_functionOf yX1_functionOf : Cond) ∈ lw_tbl := tb_6 _ (List.mem_of_getElem? (i := 47) (by decide +kernel))
set_option maxRecDepth 100000 in
theorem lm_454 : (.fieldLink RX1 219 "OwnedPlaces$Declarations" "main" "I" : Cond) ∈ lw_tbl := tb_2 _ (List.mem_of_getElem? (i := 198) (by decide +kernel))
set_option maxRecDepth 100000 in
theorem lm_455 : (.code yX9_step cX9_step 2 none : Cond) ∈ lw_tbl := tb_5 _ (List.mem_of_getElem? (i := 22) (by decide +kernel))
set_option maxRecDepth 100000 in
theorem lm_456 : (.methodLink RX9 109 Lib.Math.min.name : Cond) ∈ lw_tbl := tb_5 _ (List.mem_of_getElem? (i := 23) (by decide +kernel))
set_option maxRecDepth 100000 in
theorem lm_457 : (.static Lib.Math.min.name : Cond) ∈ lw_tbl := tb_5 _ (List.mem_of_getElem? (i := 24) (by decide +kernel))
set_option maxRecDepth 100000 in
theorem lm_458 : (.initialized "java/lang/Math" : Cond) ∈ lw_tbl := tb_1 _ (List.mem_of_getElem? (i := 21) (by decide +kernel))
set_option maxRecDepth 100000 in
theorem lm_459 : (.code Lib.Math.min.name Lib.Math.min.code 2 (some .int) : Cond) ∈ lw_tbl := tb_5 _ (List.mem_of_getElem? (i := 25) (by decide +kernel))
set_option maxRecDepth 100000 in
theorem lm_460 : (.methodLink RX1 105 yX9_step : Cond) ∈ lw_tbl := tb_5 _ (List.mem_of_getElem? (i := 180) (by decide +kernel))
set_option maxRecDepth 100000 in
theorem lm_461 : (.instanceMethod yX9_step : Cond) ∈ lw_tbl := tb_5 _ (List.mem_of_getElem? (i := 20) (by decide +kernel))
set_option maxRecDepth 100000 in
theorem lm_462 : (.selects RX9 yX9_step yX9_step : Cond) ∈ lw_tbl := tb_5 _ (List.mem_of_getElem? (i := 21) (by decide +kernel))
set_option maxRecDepth 100000 in
theorem lm_463 : (.code yX9_where cX9_where 1 (some .int) : Cond) ∈ lw_tbl := tb_5 _ (List.mem_of_getElem? (i := 10) (by decide +kernel))
set_option maxRecDepth 100000 in
theorem lm_464 : (.methodLink RX1 130 yX9_where : Cond) ∈ lw_tbl := tb_5 _ (List.mem_of_getElem? (i := 195) (by decide +kernel))
set_option maxRecDepth 100000 in
theorem lm_465 : (.instanceMethod yX9_where : Cond) ∈ lw_tbl := tb_5 _ (List.mem_of_getElem? (i := 8) (by decide +kernel))
set_option maxRecDepth 100000 in
theorem lm_466 : (.selects RX9 yX9_where yX9_where : Cond) ∈ lw_tbl := tb_5 _ (List.mem_of_getElem? (i := 9) (by decide +kernel))
set_option maxRecDepth 100000 in
theorem lm_467 : (.code yX9_fail cX9_fail 3 none : Cond) ∈ lw_tbl := tb_5 _ (List.mem_of_getElem? (i := 14) (by decide +kernel))
set_option maxRecDepth 100000 in
theorem lm_468 : (.methodLink RX1 88 yX9_fail : Cond) ∈ lw_tbl := tb_5 _ (List.mem_of_getElem? (i := 167) (by decide +kernel))
set_option maxRecDepth 100000 in
theorem lm_469 : (.instanceMethod yX9_fail : Cond) ∈ lw_tbl := tb_5 _ (List.mem_of_getElem? (i := 12) (by decide +kernel))
set_option maxRecDepth 100000 in
theorem lm_470 : (.selects RX9 yX9_fail yX9_fail : Cond) ∈ lw_tbl := tb_5 _ (List.mem_of_getElem? (i := 13) (by decide +kernel))
set_option maxRecDepth 100000 in
theorem lm_471 : (.methodLink RX1 72 yX1_checkMain : Cond) ∈ lw_tbl := tb_6 _ (List.mem_of_getElem? (i := 41) (by decide +kernel))
set_option maxRecDepth 100000 in
theorem lm_472 : (.instanceMethod yX1_checkMain : Cond) ∈ lw_tbl := tb_6 _ (List.mem_of_getElem? (i := 43) (by decide +kernel))
set_option maxRecDepth 100000 in
theorem lm_473 : (.selects RX1 yX1_checkMain yX1_checkMain : Cond) ∈ lw_tbl := List.mem_append_left _ (List.mem_of_getElem? (i := 7) (by decide +kernel))
set_option maxRecDepth 100000 in
theorem lm_474 : (.methodLink RX12 168 yX1_read : Cond) ∈ lw_tbl := tb_5 _ (List.mem_of_getElem? (i := 145) (by decide +kernel))
set_option maxRecDepth 100000 in
theorem lm_475 : (.instanceMethod yX1_read : Cond) ∈ lw_tbl := tb_5 _ (List.mem_of_getElem? (i := 146) (by decide +kernel))
set_option maxRecDepth 100000 in
theorem lm_476 : (.selects RX1 yX1_read yX1_read : Cond) ∈ lw_tbl := tb_5 _ (List.mem_of_getElem? (i := 147) (by decide +kernel))
set_option maxRecDepth 100000 in
theorem lm_477 : (.fieldLink RX12 172 "OwnedPlaces$Declarations" "total" "I" : Cond) ∈ lw_tbl := tb_2 _ (List.mem_of_getElem? (i := 196) (by decide +kernel))
set_option maxRecDepth 100000 in
theorem lm_478 : (.methodLink RX12 122 yX12_lookOver : Cond) ∈ lw_tbl := tb_4 _ (List.mem_of_getElem? (i := 177) (by decide +kernel))
set_option maxRecDepth 100000 in
theorem lm_479 : (.instanceMethod yX12_lookOver : Cond) ∈ lw_tbl := tb_4 _ (List.mem_of_getElem? (i := 179) (by decide +kernel))
set_option maxRecDepth 100000 in
theorem lm_480 : (.selects RX12 yX12_lookOver yX12_lookOver : Cond) ∈ lw_tbl := List.mem_append_left _ (List.mem_of_getElem? (i := 3) (by decide +kernel))
set_option maxRecDepth 100000 in
theorem lm_481 : (.fieldLink RX12 125 "OwnedPlaces$Text" "place" "I" : Cond) ∈ lw_tbl := tb_1 _ (List.mem_of_getElem? (i := 145) (by decide +kernel))
set_option maxRecDepth 100000 in
theorem lm_482 : (.fieldLink RX12 128 "OwnedPlaces" "fuelLeft" "I" : Cond) ∈ lw_tbl := tb_4 _ (List.mem_of_getElem? (i := 119) (by decide +kernel))
set_option maxRecDepth 100000 in
theorem lm_483 : (.methodLink RL 33 yX12_run : Cond) ∈ lw_tbl := tb_4 _ (List.mem_of_getElem? (i := 166) (by decide +kernel))
set_option maxRecDepth 100000 in
theorem lm_484 : (.instanceMethod yX12_run : Cond) ∈ lw_tbl := tb_4 _ (List.mem_of_getElem? (i := 167) (by decide +kernel))
set_option maxRecDepth 100000 in
theorem lm_485 : (.selects RX12 yX12_run yX12_run : Cond) ∈ lw_tbl := tb_4 _ (List.mem_of_getElem? (i := 168) (by decide +kernel))
set_option maxRecDepth 100000 in
theorem lm_486 : (.code yX23_run cX23_run 3 (some .int) : Cond) ∈ lw_tbl := tb_9 _ (List.mem_of_getElem? (i := 205) (by decide +kernel))
set_option maxRecDepth 100000 in
theorem lm_487 : (.fieldLink RX23 1 "OwnedPlacesModel" "size" "I" : Cond) ∈ lw_tbl := tb_8 _ (List.mem_of_getElem? (i := 165) (by decide +kernel))
set_option maxRecDepth 100000 in
theorem lm_488 : (.fieldLink RX23 80 "OwnedPlacesModel" "fault" "I" : Cond) ∈ lw_tbl := tb_8 _ (List.mem_of_getElem? (i := 166) (by decide +kernel))
set_option maxRecDepth 100000 in
theorem lm_489 : (.fieldLink RX23 83 "OwnedPlacesModel" "faultAt" "I" : Cond) ∈ lw_tbl := tb_8 _ (List.mem_of_getElem? (i := 167) (by decide +kernel))
set_option maxRecDepth 100000 in
theorem lm_490 : (.fieldLink RX23 1093 "OwnedPlacesModel" "fuel" "I" : Cond) ∈ lw_tbl := tb_8 _ (List.mem_of_getElem? (i := 233) (by decide +kernel))
set_option maxRecDepth 100000 in
theorem lm_491 : (.fieldLink RX23 1002 "OwnedPlacesModel" "inUse" "I" : Cond) ∈ lw_tbl := tb_8 _ (List.mem_of_getElem? (i := 231) (by decide +kernel))
set_option maxRecDepth 100000 in
theorem lm_492 : (.fieldLink RX23 1008 "OwnedPlacesModel" "most" "I" : Cond) ∈ lw_tbl := tb_8 _ (List.mem_of_getElem? (i := 232) (by decide +kernel))
set_option maxRecDepth 100000 in
theorem lm_493 : (.code yX23_scan cX23_scan 4 none : Cond) ∈ lw_tbl := tb_9 _ (List.mem_of_getElem? (i := 209) (by decide +kernel))
set_option maxRecDepth 100000 in
theorem lm_494 : (.fieldLink RX23 28 "OwnedPlacesModel" "tokens" "I" : Cond) ∈ lw_tbl := tb_8 _ (List.mem_of_getElem? (i := 172) (by decide +kernel))
set_option maxRecDepth 100000 in
theorem lm_495 : (.code yX23_behindBlanks cX23_behindBlanks 4 (some .int) : Cond) ∈ lw_tbl := tb_9 _ (List.mem_of_getElem? (i := 213) (by decide +kernel))
set_option maxRecDepth 100000 in
theorem lm_496 : (.code yX23_at cX23_at 2 (some .int) : Cond) ∈ lw_tbl := tb_9 _ (List.mem_of_getElem? (i := 217) (by decide +kernel))
set_option maxRecDepth 100000 in
theorem lm_497 : (.methodLink RX23 11 yX23_at : Cond) ∈ lw_tbl := tb_9 _ (List.mem_of_getElem? (i := 214) (by decide +kernel))
set_option maxRecDepth 100000 in
theorem lm_498 : (.instanceMethod yX23_at : Cond) ∈ lw_tbl := tb_9 _ (List.mem_of_getElem? (i := 216) (by decide +kernel))
set_option maxRecDepth 100000 in
theorem lm_499 : (.selects RX23 yX23_at yX23_at : Cond) ∈ lw_tbl := List.mem_append_left _ (List.mem_of_getElem? (i := 11) (by decide +kernel))
set_option maxRecDepth 100000 in
theorem lm_500 : (.methodLink RX23 68 yX23_behindBlanks : Cond) ∈ lw_tbl := tb_9 _ (List.mem_of_getElem? (i := 210) (by decide +kernel))
set_option maxRecDepth 100000 in
theorem lm_501 : (.instanceMethod yX23_behindBlanks : Cond) ∈ lw_tbl := tb_9 _ (List.mem_of_getElem? (i := 212) (by decide +kernel))
set_option maxRecDepth 100000 in
theorem lm_502 : (.selects RX23 yX23_behindBlanks yX23_behindBlanks : Cond) ∈ lw_tbl := List.mem_append_left _ (List.mem_of_getElem? (i := 10) (by decide +kernel))
set_option maxRecDepth 100000 in
theorem lm_503 : (.code yX23_addToken cX23_addToken 6 none : Cond) ∈ lw_tbl := tb_10 _ (List.mem_of_getElem? (i := 1) (by decide +kernel))
set_option maxRecDepth 100000 in
theorem lm_504 : (.methodLink RX23 51 yX23_addToken : Cond) ∈ lw_tbl := tb_9 _ (List.mem_of_getElem? (i := 238) (by decide +kernel))
set_option maxRecDepth 100000 in
theorem lm_505 : (.instanceMethod yX23_addToken : Cond) ∈ lw_tbl := tb_10 _ (List.mem_of_getElem? (i := 0) (by decide +kernel))
set_option maxRecDepth 100000 in
theorem lm_506 : (.selects RX23 yX23_addToken yX23_addToken : Cond) ∈ lw_tbl := List.mem_append_left _ (List.mem_of_getElem? (i := 12) (by decide +kernel))
set_option maxRecDepth 100000 in
theorem lm_507 : (.methodLink RX23 1173 yX23_scan : Cond) ∈ lw_tbl := tb_9 _ (List.mem_of_getElem? (i := 206) (by decide +kernel))
set_option maxRecDepth 100000 in
theorem lm_508 : (.instanceMethod yX23_scan : Cond) ∈ lw_tbl := tb_9 _ (List.mem_of_getElem? (i := 208) (by decide +kernel))
set_option maxRecDepth 100000 in
theorem lm_509 : (.selects RX23 yX23_scan yX23_scan : Cond) ∈ lw_tbl := List.mem_append_left _ (List.mem_of_getElem? (i := 9) (by decide +kernel))
set_option maxRecDepth 100000 in
theorem lm_510 : (.code yX23_program cX23_program 2 none : Cond) ∈ lw_tbl := tb_10 _ (List.mem_of_getElem? (i := 21) (by decide +kernel))
set_option maxRecDepth 100000 in
theorem lm_511 : (.fieldLink RX23 221 "OwnedPlacesModel" "itemMany" "I" : Cond) ∈ lw_tbl := tb_8 _ (List.mem_of_getElem? (i := 175) (by decide +kernel))
set_option maxRecDepth 100000 in
theorem lm_512 : (.fieldLink RX23 171 "OwnedPlacesModel" "typeItems" "I" : Cond) ∈ lw_tbl := tb_8 _ (List.mem_of_getElem? (i := 176) (by decide +kernel))
set_option maxRecDepth 100000 in
theorem lm_513 : (.fieldLink RX23 189 "OwnedPlacesModel" "functions" "I" : Cond) ∈ lw_tbl := tb_8 _ (List.mem_of_getElem? (i := 177) (by decide +kernel))
set_option maxRecDepth 100000 in
theorem lm_514 : (.fieldLink RX23 86 "OwnedPlacesModel" "p" "I" : Cond) ∈ lw_tbl := tb_8 _ (List.mem_of_getElem? (i := 173) (by decide +kernel))
set_option maxRecDepth 100000 in
theorem lm_515 : (.fieldLink RX23 104 "OwnedPlacesModel" "nest" "I" : Cond) ∈ lw_tbl := tb_8 _ (List.mem_of_getElem? (i := 178) (by decide +kernel))
set_option maxRecDepth 100000 in
theorem lm_516 : (.code yX23_ok cX23_ok 1 (some .boolean) : Cond) ∈ lw_tbl := tb_10 _ (List.mem_of_getElem? (i := 25) (by decide +kernel))
set_option maxRecDepth 100000 in
theorem lm_517 : (.methodLink RX23 89 yX23_ok : Cond) ∈ lw_tbl := tb_10 _ (List.mem_of_getElem? (i := 22) (by decide +kernel))
set_option maxRecDepth 100000 in
theorem lm_518 : (.instanceMethod yX23_ok : Cond) ∈ lw_tbl := tb_10 _ (List.mem_of_getElem? (i := 24) (by decide +kernel))
set_option maxRecDepth 100000 in
theorem lm_519 : (.selects RX23 yX23_ok yX23_ok : Cond) ∈ lw_tbl := List.mem_append_left _ (List.mem_of_getElem? (i := 14) (by decide +kernel))
set_option maxRecDepth 100000 in
theorem lm_520 : (.code yX23_is cX23_is 2 (some .boolean) : Cond) ∈ lw_tbl := tb_10 _ (List.mem_of_getElem? (i := 29) (by decide +kernel))
set_option maxRecDepth 100000 in
theorem lm_521 : (.methodLink RX23 93 yX23_is : Cond) ∈ lw_tbl := tb_10 _ (List.mem_of_getElem? (i := 26) (by decide +kernel))
set_option maxRecDepth 100000 in
theorem lm_522 : (.instanceMethod yX23_is : Cond) ∈ lw_tbl := tb_10 _ (List.mem_of_getElem? (i := 28) (by decide +kernel))
set_option maxRecDepth 100000 in
theorem lm_523 : (.selects RX23 yX23_is yX23_is : Cond) ∈ lw_tbl := List.mem_append_left _ (List.mem_of_getElem? (i := 15) (by decide +kernel))
set_option maxRecDepth 100000 in
theorem lm_524 : (.methodLink RX23 1176 yX23_program : Cond) ∈ lw_tbl := tb_10 _ (List.mem_of_getElem? (i := 18) (by decide +kernel))
set_option maxRecDepth 100000 in
theorem lm_525 : (.instanceMethod yX23_program : Cond) ∈ lw_tbl := tb_10 _ (List.mem_of_getElem? (i := 20) (by decide +kernel))
set_option maxRecDepth 100000 in
theorem lm_526 : (.selects RX23 yX23_program yX23_program : Cond) ∈ lw_tbl := List.mem_append_left _ (List.mem_of_getElem? (i := 13) (by decide +kernel))
set_option maxRecDepth 100000 in
theorem lm_527 : (.code yX23_typeAll cX23_typeAll 2 none : Cond) ∈ lw_tbl := tb_11 _ (List.mem_of_getElem? (i := 188) (by decide +kernel))
set_option maxRecDepth 100000 in
theorem lm_528 : (.fieldLink RX23 382 "OwnedPlacesModel" "typeMany" "I" : Cond) ∈ lw_tbl := tb_8 _ (List.mem_of_getElem? (i := 182) (by decide +kernel))
set_option maxRecDepth 100000 in
theorem lm_529 : (.code yX23_itemNames cX23_itemNames 3 none : Cond) ∈ lw_tbl := tb_11 _ (List.mem_of_getElem? (i := 192) (by decide +kernel))
set_option maxRecDepth 100000 in
theorem lm_530 : (.methodLink RX23 605 yX23_itemNames : Cond) ∈ lw_tbl := tb_11 _ (List.mem_of_getElem? (i := 189) (by decide +kernel))
set_option maxRecDepth 100000 in
theorem lm_531 : (.instanceMethod yX23_itemNames : Cond) ∈ lw_tbl := tb_11 _ (List.mem_of_getElem? (i := 191) (by decide +kernel))
set_option maxRecDepth 100000 in
theorem lm_532 : (.selects RX23 yX23_itemNames yX23_itemNames : Cond) ∈ lw_tbl := List.mem_append_left _ (List.mem_of_getElem? (i := 18) (by decide +kernel))
set_option maxRecDepth 100000 in
theorem lm_533 : (.code yX23_sizes cX23_sizes 2 none : Cond) ∈ lw_tbl := tb_12 _ (List.mem_of_getElem? (i := 6) (by decide +kernel))
set_option maxRecDepth 100000 in
theorem lm_534 : (.code yX23_endless cX23_endless 4 none : Cond) ∈ lw_tbl := tb_12 _ (List.mem_of_getElem? (i := 10) (by decide +kernel))
set_option maxRecDepth 100000 in
theorem lm_535 : (.methodLink RX23 451 yX23_endless : Cond) ∈ lw_tbl := tb_12 _ (List.mem_of_getElem? (i := 7) (by decide +kernel))
set_option maxRecDepth 100000 in
theorem lm_536 : (.instanceMethod yX23_endless : Cond) ∈ lw_tbl := tb_12 _ (List.mem_of_getElem? (i := 9) (by decide +kernel))
set_option maxRecDepth 100000 in
theorem lm_537 : (.selects RX23 yX23_endless yX23_endless : Cond) ∈ lw_tbl := List.mem_append_left _ (List.mem_of_getElem? (i := 20) (by decide +kernel))
set_option maxRecDepth 100000 in
theorem lm_538 : (.methodLink RX23 611 yX23_sizes : Cond) ∈ lw_tbl := tb_12 _ (List.mem_of_getElem? (i := 3) (by decide +kernel))
set_option maxRecDepth 100000 in
theorem lm_539 : (.instanceMethod yX23_sizes : Cond) ∈ lw_tbl := tb_12 _ (List.mem_of_getElem? (i := 5) (by decide +kernel))
set_option maxRecDepth 100000 in
theorem lm_540 : (.selects RX23 yX23_sizes yX23_sizes : Cond) ∈ lw_tbl := List.mem_append_left _ (List.mem_of_getElem? (i := 19) (by decide +kernel))
set_option maxRecDepth 100000 in
theorem lm_541 : (.code yX23_leaves cX23_leaves 2 none : Cond) ∈ lw_tbl := tb_12 _ (List.mem_of_getElem? (i := 29) (by decide +kernel))
set_option maxRecDepth 100000 in
theorem lm_542 : (.methodLink RX23 614 yX23_leaves : Cond) ∈ lw_tbl := tb_12 _ (List.mem_of_getElem? (i := 26) (by decide +kernel))
set_option maxRecDepth 100000 in
theorem lm_543 : (.instanceMethod yX23_leaves : Cond) ∈ lw_tbl := tb_12 _ (List.mem_of_getElem? (i := 28) (by decide +kernel))
set_option maxRecDepth 100000 in
theorem lm_544 : (.selects RX23 yX23_leaves yX23_leaves : Cond) ∈ lw_tbl := List.mem_append_left _ (List.mem_of_getElem? (i := 21) (by decide +kernel))
set_option maxRecDepth 100000 in
theorem lm_545 : (.code yX23_findMain cX23_findMain 2 none : Cond) ∈ lw_tbl := tb_12 _ (List.mem_of_getElem? (i := 37) (by decide +kernel))
set_option maxRecDepth 100000 in
theorem lm_546 : (.fieldLink RX23 459 "OwnedPlacesModel" "main" "I" : Cond) ∈ lw_tbl := tb_8 _ (List.mem_of_getElem? (i := 184) (by decide +kernel))
set_option maxRecDepth 100000 in
theorem lm_547 : (.code yX23_fail cX23_fail 3 none : Cond) ∈ lw_tbl := tb_10 _ (List.mem_of_getElem? (i := 33) (by decide +kernel))
set_option maxRecDepth 100000 in
theorem lm_548 : (.methodLink RX23 96 yX23_fail : Cond) ∈ lw_tbl := tb_10 _ (List.mem_of_getElem? (i := 30) (by decide +kernel))
set_option maxRecDepth 100000 in
theorem lm_549 : (.instanceMethod yX23_fail : Cond) ∈ lw_tbl := tb_10 _ (List.mem_of_getElem? (i := 32) (by decide +kernel))
set_option maxRecDepth 100000 in
theorem lm_550 : (.selects RX23 yX23_fail yX23_fail : Cond) ∈ lw_tbl := List.mem_append_left _ (List.mem_of_getElem? (i := 16) (by decide +kernel))
set_option maxRecDepth 100000 in
theorem lm_551 : (.methodLink RX23 616 yX23_findMain : Cond) ∈ lw_tbl := tb_12 _ (List.mem_of_getElem? (i := 34) (by decide +kernel))
set_option maxRecDepth 100000 in
theorem lm_552 : (.instanceMethod yX23_findMain : Cond) ∈ lw_tbl := tb_12 _ (List.mem_of_getElem? (i := 36) (by decide +kernel))
set_option maxRecDepth 100000 in
theorem lm_553 : (.selects RX23 yX23_findMain yX23_findMain : Cond) ∈ lw_tbl := List.mem_append_left _ (List.mem_of_getElem? (i := 22) (by decide +kernel))
set_option maxRecDepth 100000 in
theorem lm_554 : (.methodLink RX23 1179 yX23_typeAll : Cond) ∈ lw_tbl := tb_11 _ (List.mem_of_getElem? (i := 185) (by decide +kernel))
set_option maxRecDepth 100000 in
theorem lm_555 : (.instanceMethod yX23_typeAll : Cond) ∈ lw_tbl := tb_11 _ (List.mem_of_getElem? (i := 187) (by decide +kernel))
set_option maxRecDepth 100000 in
theorem lm_556 : (.selects RX23 yX23_typeAll yX23_typeAll : Cond) ∈ lw_tbl := List.mem_append_left _ (List.mem_of_getElem? (i := 17) (by decide +kernel))
set_option maxRecDepth 100000 in
theorem lm_557 : (.fieldLink RX23 1188 "OwnedPlacesModel" "fuelLeft" "I" : Cond) ∈ lw_tbl := tb_8 _ (List.mem_of_getElem? (i := 234) (by decide +kernel))
set_option maxRecDepth 100000 in
theorem lm_558 : (.methodLink RL 37 yX23_run : Cond) ∈ lw_tbl := tb_9 _ (List.mem_of_getElem? (i := 202) (by decide +kernel))
set_option maxRecDepth 100000 in
theorem lm_559 : (.instanceMethod yX23_run : Cond) ∈ lw_tbl := tb_9 _ (List.mem_of_getElem? (i := 203) (by decide +kernel))
set_option maxRecDepth 100000 in
theorem lm_560 : (.selects RX23 yX23_run yX23_run : Cond) ∈ lw_tbl := tb_9 _ (List.mem_of_getElem? (i := 204) (by decide +kernel))
set_option maxRecDepth 100000 in
theorem lm_561 : (.code yX12_place cX12_place 1 (some .int) : Cond) ∈ lw_tbl := tb_8 _ (List.mem_of_getElem? (i := 127) (by decide +kernel))
set_option maxRecDepth 100000 in
theorem lm_562 : (.methodLink RL 38 yX12_place : Cond) ∈ lw_tbl := tb_8 _ (List.mem_of_getElem? (i := 124) (by decide +kernel))
set_option maxRecDepth 100000 in
theorem lm_563 : (.instanceMethod yX12_place : Cond) ∈ lw_tbl := tb_8 _ (List.mem_of_getElem? (i := 125) (by decide +kernel))
set_option maxRecDepth 100000 in
theorem lm_564 : (.selects RX12 yX12_place yX12_place : Cond) ∈ lw_tbl := tb_8 _ (List.mem_of_getElem? (i := 126) (by decide +kernel))
set_option maxRecDepth 100000 in
theorem lm_565 : (.code yX23_place_ cX23_place_ 1 (some .int) : Cond) ∈ lw_tbl := tb_14 _ (List.mem_of_getElem? (i := 132) (by decide +kernel))
set_option maxRecDepth 100000 in
theorem lm_566 : (.methodLink RL 42 yX23_place_ : Cond) ∈ lw_tbl := tb_14 _ (List.mem_of_getElem? (i := 129) (by decide +kernel))
set_option maxRecDepth 100000 in
theorem lm_567 : (.instanceMethod yX23_place_ : Cond) ∈ lw_tbl := tb_14 _ (List.mem_of_getElem? (i := 130) (by decide +kernel))
set_option maxRecDepth 100000 in
theorem lm_568 : (.selects RX23 yX23_place_ yX23_place_ : Cond) ∈ lw_tbl := tb_14 _ (List.mem_of_getElem? (i := 131) (by decide +kernel))
set_option maxRecDepth 100000 in
theorem lm_569 : (.code yX12_fetch cX12_fetch 5 (some .long) : Cond) ∈ lw_tbl := tb_8 _ (List.mem_of_getElem? (i := 131) (by decide +kernel))
set_option maxRecDepth 100000 in
theorem lm_570 : (.fieldLink RX12 144 "OwnedPlaces$Queue" "size" "I" : Cond) ∈ lw_tbl := tb_3 _ (List.mem_of_getElem? (i := 225) (by decide +kernel))
set_option maxRecDepth 100000 in
theorem lm_571 : (.methodLink RX12 147 Lib.Math.min.name : Cond) ∈ lw_tbl := tb_8 _ (List.mem_of_getElem? (i := 132) (by decide +kernel))
set_option maxRecDepth 100000 in
theorem lm_572 : (.methodLink RL 43 yX12_fetch : Cond) ∈ lw_tbl := tb_8 _ (List.mem_of_getElem? (i := 128) (by decide +kernel))
set_option maxRecDepth 100000 in
theorem lm_573 : (.instanceMethod yX12_fetch : Cond) ∈ lw_tbl := tb_8 _ (List.mem_of_getElem? (i := 129) (by decide +kernel))
set_option maxRecDepth 100000 in
theorem lm_574 : (.selects RX12 yX12_fetch yX12_fetch : Cond) ∈ lw_tbl := tb_8 _ (List.mem_of_getElem? (i := 130) (by decide +kernel))
set_option maxRecDepth 100000 in
theorem lm_575 : (.code yX23_fetch cX23_fetch 5 (some .long) : Cond) ∈ lw_tbl := tb_14 _ (List.mem_of_getElem? (i := 136) (by decide +kernel))
set_option maxRecDepth 100000 in
theorem lm_576 : (.fieldLink RX23 1061 "OwnedPlacesModel" "waitLong" "I" : Cond) ∈ lw_tbl := tb_9 _ (List.mem_of_getElem? (i := 7) (by decide +kernel))
set_option maxRecDepth 100000 in
theorem lm_577 : (.methodLink RL 47 yX23_fetch : Cond) ∈ lw_tbl := tb_14 _ (List.mem_of_getElem? (i := 133) (by decide +kernel))
set_option maxRecDepth 100000 in
theorem lm_578 : (.instanceMethod yX23_fetch : Cond) ∈ lw_tbl := tb_14 _ (List.mem_of_getElem? (i := 134) (by decide +kernel))
set_option maxRecDepth 100000 in
theorem lm_579 : (.selects RX23 yX23_fetch yX23_fetch : Cond) ∈ lw_tbl := tb_14 _ (List.mem_of_getElem? (i := 135) (by decide +kernel))
set_option maxRecDepth 100000 in
theorem lm_580 : (.code yX12_count cX12_count 2 (some .int) : Cond) ∈ lw_tbl := tb_8 _ (List.mem_of_getElem? (i := 137) (by decide +kernel))
set_option maxRecDepth 100000 in
theorem lm_581 : (.fieldLink RX12 156 "OwnedPlaces$Memory" "inUse" "I" : Cond) ∈ lw_tbl := tb_4 _ (List.mem_of_getElem? (i := 9) (by decide +kernel))
set_option maxRecDepth 100000 in
theorem lm_582 : (.fieldLink RX12 159 "OwnedPlaces$Memory" "mostInUse" "I" : Cond) ∈ lw_tbl := tb_4 _ (List.mem_of_getElem? (i := 11) (by decide +kernel))
set_option maxRecDepth 100000 in
theorem lm_583 : (.methodLink RL 48 yX12_count : Cond) ∈ lw_tbl := tb_8 _ (List.mem_of_getElem? (i := 134) (by decide +kernel))
set_option maxRecDepth 100000 in
theorem lm_584 : (.instanceMethod yX12_count : Cond) ∈ lw_tbl := tb_8 _ (List.mem_of_getElem? (i := 135) (by decide +kernel))
set_option maxRecDepth 100000 in
theorem lm_585 : (.selects RX12 yX12_count yX12_count : Cond) ∈ lw_tbl := tb_8 _ (List.mem_of_getElem? (i := 136) (by decide +kernel))
set_option maxRecDepth 100000 in
theorem lm_586 : (.code yX23_count cX23_count 2 (some .int) : Cond) ∈ lw_tbl := tb_14 _ (List.mem_of_getElem? (i := 140) (by decide +kernel))
set_option maxRecDepth 100000 in
theorem lm_587 : (.methodLink RL 52 yX23_count : Cond) ∈ lw_tbl := tb_14 _ (List.mem_of_getElem? (i := 137) (by decide +kernel))
set_option maxRecDepth 100000 in
theorem lm_588 : (.instanceMethod yX23_count : Cond) ∈ lw_tbl := tb_14 _ (List.mem_of_getElem? (i := 138) (by decide +kernel))
set_option maxRecDepth 100000 in
theorem lm_589 : (.selects RX23 yX23_count yX23_count : Cond) ∈ lw_tbl := tb_14 _ (List.mem_of_getElem? (i := 139) (by decide +kernel))
theorem lc_0 : ∀ w ∈ ([.instantiable RX0 18, .instantiable RX1 8, .instantiable RX2 22, .instantiable RX3 7, .instantiable RX4 18, .instantiable RX5 19, .instantiable RX6 12, .instantiable RX7 9, .instantiable RX8 4, .instantiable RX9 18, .instantiable RX10 16, .instantiable RX11 13, .instantiable RX12 14, .instantiable RX13 6, .instantiable RX14 4, .instantiable RX15 14, .instantiable RX16 22, .instantiable RX17 3, .instantiable RX18 4, .instantiable RX19 14, .instantiable RX20 4, .instantiable RX21 5, .instantiable RX22 5, .instantiable RX23 89, .initialized RJ0] : List Cond), w ∈ lw_tbl := List.forall_mem_cons.mpr ⟨lm_0, List.forall_mem_cons.mpr ⟨lm_1, List.forall_mem_cons.mpr ⟨lm_2, List.forall_mem_cons.mpr ⟨lm_3, List.forall_mem_cons.mpr ⟨lm_4, List.forall_mem_cons.mpr ⟨lm_5, List.forall_mem_cons.mpr ⟨lm_6, List.forall_mem_cons.mpr ⟨lm_7, List.forall_mem_cons.mpr ⟨lm_8, List.forall_mem_cons.mpr ⟨lm_9, List.forall_mem_cons.mpr ⟨lm_10, List.forall_mem_cons.mpr ⟨lm_11, List.forall_mem_cons.mpr ⟨lm_12, List.forall_mem_cons.mpr ⟨lm_13, List.forall_mem_cons.mpr ⟨lm_14, List.forall_mem_cons.mpr ⟨lm_15, List.forall_mem_cons.mpr ⟨lm_16, List.forall_mem_cons.mpr ⟨lm_17, List.forall_mem_cons.mpr ⟨lm_18, List.forall_mem_cons.mpr ⟨lm_19, List.forall_mem_cons.mpr ⟨lm_20, List.forall_mem_cons.mpr ⟨lm_21, List.forall_mem_cons.mpr ⟨lm_22, List.forall_mem_cons.mpr ⟨lm_23, List.forall_mem_cons.mpr ⟨lm_24, fun _ h => absurd h List.not_mem_nil⟩⟩⟩⟩⟩⟩⟩⟩⟩⟩⟩⟩⟩⟩⟩⟩⟩⟩⟩⟩⟩⟩⟩⟩⟩
theorem lc_1 : ∀ w ∈ ([.classLink RL 7 RX12, .initialized RX12, .code yL_cell cL_cell 2 (some .int), .methodLink RL 9 yL_cell, .static yL_cell, .initialized RL, .code yX12_init cX12_init 3 none, .methodLink RX12 3 objectInit, .instanceMethod objectInit, .code objectInit ⟨#[0xb1]⟩ 1 none, .classLink RX12 9 RX9, .initialized RX9, .code yX9_init cX9_init 4 none, .methodLink RX9 3 objectInit, .arrayClass .int, .fieldLink RX9 9 "OwnedPlaces$Text" "kinds" "[I", .fieldLink RX9 15 "OwnedPlaces$Text" "places" "[I", .fieldLink RX9 18 "OwnedPlaces$Text" "names" "[I", .arrayClass .long, .fieldLink RX9 21 "OwnedPlaces$Text" "numbers" "[J", .fieldLink RX9 25 "OwnedPlaces$Text" "links" "[I", .fieldLink RX9 28 "OwnedPlaces$Text" "place" "I", .arrayClass .byte, .fieldLink RX9 32 "OwnedPlaces$Text" "bytes" "[B", .fieldLink RX9 36 "OwnedPlaces$Text" "spelled" "[B"] : List Cond), w ∈ lw_tbl := List.forall_mem_cons.mpr ⟨lm_25, List.forall_mem_cons.mpr ⟨lm_26, List.forall_mem_cons.mpr ⟨lm_27, List.forall_mem_cons.mpr ⟨lm_28, List.forall_mem_cons.mpr ⟨lm_29, List.forall_mem_cons.mpr ⟨lm_30, List.forall_mem_cons.mpr ⟨lm_31, List.forall_mem_cons.mpr ⟨lm_32, List.forall_mem_cons.mpr ⟨lm_33, List.forall_mem_cons.mpr ⟨lm_34, List.forall_mem_cons.mpr ⟨lm_35, List.forall_mem_cons.mpr ⟨lm_36, List.forall_mem_cons.mpr ⟨lm_37, List.forall_mem_cons.mpr ⟨lm_38, List.forall_mem_cons.mpr ⟨lm_39, List.forall_mem_cons.mpr ⟨lm_40, List.forall_mem_cons.mpr ⟨lm_41, List.forall_mem_cons.mpr ⟨lm_42, List.forall_mem_cons.mpr ⟨lm_43, List.forall_mem_cons.mpr ⟨lm_44, List.forall_mem_cons.mpr ⟨lm_45, List.forall_mem_cons.mpr ⟨lm_46, List.forall_mem_cons.mpr ⟨lm_47, List.forall_mem_cons.mpr ⟨lm_48, List.forall_mem_cons.mpr ⟨lm_49, fun _ h => absurd h List.not_mem_nil⟩⟩⟩⟩⟩⟩⟩⟩⟩⟩⟩⟩⟩⟩⟩⟩⟩⟩⟩⟩⟩⟩⟩⟩⟩
theorem lc_2 : ∀ w ∈ ([.fieldLink RX9 39 "OwnedPlaces$Text" "nameFrom" "[I", .fieldLink RX9 42 "OwnedPlaces$Text" "nameSize" "[I", .fieldLink RX9 45 "OwnedPlaces$Text" "nameNext" "[I", .fieldLink RX9 48 "OwnedPlaces$Text" "heads" "[I", .code yJ7_fill_53178 cJ7_fill_53178 4 none, .methodLink RX9 51 yJ7_fill_53178, .static yJ7_fill_53178, .initialized RJ7, .code yJ0_length_8abf5 cJ0_length_8abf5 1 (some .int), .fieldLink RJ0 9 "java/lang/String" "value" "[B", .code yJ0_coder_7d493 cJ0_coder_7d493 1 (some .byte), .fieldLink RJ0 38 "java/lang/String" "COMPACT_STRINGS" "Z", .fieldLink RJ0 15 "java/lang/String" "coder" "B", .methodLink RJ0 335 yJ0_coder_7d493, .instanceMethod yJ0_coder_7d493, .selects RJ0 yJ0_coder_7d493 yJ0_coder_7d493, .methodLink RX9 59 yJ0_length_8abf5, .instanceMethod yJ0_length_8abf5, .selects RJ0 yJ0_length_8abf5 yJ0_length_8abf5, .code yJ0_charAt_5068e cJ0_charAt_5068e 2 (some .char), .code yJ0_isLatin1_aae02 cJ0_isLatin1_aae02 1 (some .boolean), .methodLink RJ0 492 yJ0_isLatin1_aae02, .instanceMethod yJ0_isLatin1_aae02, .selects RJ0 yJ0_isLatin1_aae02 yJ0_isLatin1_aae02, .code yJ1_charAt_3b067 cJ1_charAt_3b067 2 (some .char)] : List Cond), w ∈ lw_tbl := List.forall_mem_cons.mpr ⟨lm_50, List.forall_mem_cons.mpr ⟨lm_51, List.forall_mem_cons.mpr ⟨lm_52, List.forall_mem_cons.mpr ⟨lm_53, List.forall_mem_cons.mpr ⟨lm_54, List.forall_mem_cons.mpr ⟨lm_55, List.forall_mem_cons.mpr ⟨lm_56, List.forall_mem_cons.mpr ⟨lm_57, List.forall_mem_cons.mpr ⟨lm_58, List.forall_mem_cons.mpr ⟨lm_59, List.forall_mem_cons.mpr ⟨lm_60, List.forall_mem_cons.mpr ⟨lm_61, List.forall_mem_cons.mpr ⟨lm_62, List.forall_mem_cons.mpr ⟨lm_63, List.forall_mem_cons.mpr ⟨lm_64, List.forall_mem_cons.mpr ⟨lm_65, List.forall_mem_cons.mpr ⟨lm_66, List.forall_mem_cons.mpr ⟨lm_67, List.forall_mem_cons.mpr ⟨lm_68, List.forall_mem_cons.mpr ⟨lm_69, List.forall_mem_cons.mpr ⟨lm_70, List.forall_mem_cons.mpr ⟨lm_71, List.forall_mem_cons.mpr ⟨lm_72, List.forall_mem_cons.mpr ⟨lm_73, List.forall_mem_cons.mpr ⟨lm_74, fun _ h => absurd h List.not_mem_nil⟩⟩⟩⟩⟩⟩⟩⟩⟩⟩⟩⟩⟩⟩⟩⟩⟩⟩⟩⟩⟩⟩⟩⟩⟩
theorem lc_3 : ∀ w ∈ ([.code yJ0_checkIndex_df160 cJ0_checkIndex_df160 2 none, .fieldLink RJ0 1053 "jdk/internal/util/Preconditions" "SIOOBE_FORMATTER" "Ljava/util/function/BiFunction;", .code yJ3_checkIndex_8e157 cJ3_checkIndex_8e157 3 (some .int), .methodLink RJ0 1059 yJ3_checkIndex_8e157, .static yJ3_checkIndex_8e157, .initialized RJ3, .methodLink RJ1 9 yJ0_checkIndex_df160, .static yJ0_checkIndex_df160, .methodLink RJ0 495 yJ1_charAt_3b067, .static yJ1_charAt_3b067, .initialized RJ1, .methodLink RX9 65 yJ0_charAt_5068e, .instanceMethod yJ0_charAt_5068e, .selects RJ0 yJ0_charAt_5068e yJ0_charAt_5068e, .code yX9_nameOf cX9_nameOf 8 (some .int), .code yX9_addName cX9_addName 7 (some .int), .fieldLink RX9 89 "OwnedPlaces$Text" "nameTotal" "I", .methodLink RX9 83 arraycopyName, .native arraycopyName, .static arraycopyName, .initialized "java/lang/System", .methodLink RX9 158 yX9_addName, .instanceMethod yX9_addName, .selects RX9 yX9_addName yX9_addName, .code yX9_isSpelled cX9_isSpelled 6 (some .boolean)] : List Cond), w ∈ lw_tbl := List.forall_mem_cons.mpr ⟨lm_75, List.forall_mem_cons.mpr ⟨lm_76, List.forall_mem_cons.mpr ⟨lm_77, List.forall_mem_cons.mpr ⟨lm_78, List.forall_mem_cons.mpr ⟨lm_79, List.forall_mem_cons.mpr ⟨lm_80, List.forall_mem_cons.mpr ⟨lm_81, List.forall_mem_cons.mpr ⟨lm_82, List.forall_mem_cons.mpr ⟨lm_83, List.forall_mem_cons.mpr ⟨lm_84, List.forall_mem_cons.mpr ⟨lm_85, List.forall_mem_cons.mpr ⟨lm_86, List.forall_mem_cons.mpr ⟨lm_87, List.forall_mem_cons.mpr ⟨lm_88, List.forall_mem_cons.mpr ⟨lm_89, List.forall_mem_cons.mpr ⟨lm_90, List.forall_mem_cons.mpr ⟨lm_91, List.forall_mem_cons.mpr ⟨lm_92, List.forall_mem_cons.mpr ⟨lm_93, List.forall_mem_cons.mpr ⟨lm_94, List.forall_mem_cons.mpr ⟨lm_95, List.forall_mem_cons.mpr ⟨lm_96, List.forall_mem_cons.mpr ⟨lm_97, List.forall_mem_cons.mpr ⟨lm_98, List.forall_mem_cons.mpr ⟨lm_99, fun _ h => absurd h List.not_mem_nil⟩⟩⟩⟩⟩⟩⟩⟩⟩⟩⟩⟩⟩⟩⟩⟩⟩⟩⟩⟩⟩⟩⟩⟩⟩
theorem lc_4 : ∀ w ∈ ([.methodLink RX9 154 yX9_isSpelled, .instanceMethod yX9_isSpelled, .selects RX9 yX9_isSpelled yX9_isSpelled, .methodLink RX9 69 yX9_nameOf, .instanceMethod yX9_nameOf, .selects RX9 yX9_nameOf yX9_nameOf, .methodLink RX9 73 ⟨"[I", "clone", "()Ljava/lang/Object;"⟩, .sameMethod "[I" "java/lang/Object" "clone" "()Ljava/lang/Object;", .native ⟨"java/lang/Object", "clone", "()Ljava/lang/Object;"⟩, .instanceMethod ⟨"java/lang/Object", "clone", "()Ljava/lang/Object;"⟩, .selects "[I" ⟨"[I", "clone", "()Ljava/lang/Object;"⟩ ⟨"java/lang/Object", "clone", "()Ljava/lang/Object;"⟩, .classLink RX9 74 "[I", .fieldLink RX9 78 "OwnedPlaces$Text" "wordHeads" "[I", .methodLink RX12 11 yX9_init, .instanceMethod yX9_init, .fieldLink RX12 12 "OwnedPlaces" "text" "LOwnedPlaces$Text;", .classLink RX12 16 RX3, .initialized RX3, .code yX3_init cX3_init 2 none, .methodLink RX3 3 objectInit, .fieldLink RX3 9 "OwnedPlaces$Grammar" "items" "[I", .fieldLink RX3 15 "OwnedPlaces$Grammar" "text" "LOwnedPlaces$Text;", .methodLink RX12 18 yX3_init, .instanceMethod yX3_init, .fieldLink RX12 21 "OwnedPlaces" "grammar" "LOwnedPlaces$Grammar;"] : List Cond), w ∈ lw_tbl := List.forall_mem_cons.mpr ⟨lm_100, List.forall_mem_cons.mpr ⟨lm_101, List.forall_mem_cons.mpr ⟨lm_102, List.forall_mem_cons.mpr ⟨lm_103, List.forall_mem_cons.mpr ⟨lm_104, List.forall_mem_cons.mpr ⟨lm_105, List.forall_mem_cons.mpr ⟨lm_106, List.forall_mem_cons.mpr ⟨lm_107, List.forall_mem_cons.mpr ⟨lm_108, List.forall_mem_cons.mpr ⟨lm_109, List.forall_mem_cons.mpr ⟨lm_110, List.forall_mem_cons.mpr ⟨lm_111, List.forall_mem_cons.mpr ⟨lm_112, List.forall_mem_cons.mpr ⟨lm_113, List.forall_mem_cons.mpr ⟨lm_114, List.forall_mem_cons.mpr ⟨lm_115, List.forall_mem_cons.mpr ⟨lm_116, List.forall_mem_cons.mpr ⟨lm_117, List.forall_mem_cons.mpr ⟨lm_118, List.forall_mem_cons.mpr ⟨lm_119, List.forall_mem_cons.mpr ⟨lm_120, List.forall_mem_cons.mpr ⟨lm_121, List.forall_mem_cons.mpr ⟨lm_122, List.forall_mem_cons.mpr ⟨lm_123, List.forall_mem_cons.mpr ⟨lm_124, fun _ h => absurd h List.not_mem_nil⟩⟩⟩⟩⟩⟩⟩⟩⟩⟩⟩⟩⟩⟩⟩⟩⟩⟩⟩⟩⟩⟩⟩⟩⟩
theorem lc_5 : ∀ w ∈ ([.classLink RX12 25 RX10, .initialized RX10, .code yX10_init cX10_init 1 none, .methodLink RX10 3 objectInit, .fieldLink RX10 9 "OwnedPlaces$Types" "kind" "[I", .fieldLink RX10 15 "OwnedPlaces$Types" "of" "[I", .fieldLink RX10 18 "OwnedPlaces$Types" "size" "[I", .arrayClass .boolean, .fieldLink RX10 21 "OwnedPlaces$Types" "drops" "[Z", .fieldLink RX10 25 "OwnedPlaces$Types" "boxes" "[I", .fieldLink RX10 28 "OwnedPlaces$Types" "shared" "[I", .fieldLink RX10 31 "OwnedPlaces$Types" "unique" "[I", .fieldLink RX10 34 "OwnedPlaces$Types" "shapeToken" "[I", .fieldLink RX10 37 "OwnedPlaces$Types" "variants" "[I", .fieldLink RX10 40 "OwnedPlaces$Types" "variantName" "[I", .fieldLink RX10 43 "OwnedPlaces$Types" "parts" "[I", .fieldLink RX10 46 "OwnedPlaces$Types" "partName" "[I", .fieldLink RX10 49 "OwnedPlaces$Types" "partType" "[I", .fieldLink RX10 52 "OwnedPlaces$Types" "partOffset" "[I", .instanceMethod yX10_init, .fieldLink RX12 28 "OwnedPlaces" "types" "LOwnedPlaces$Types;", .classLink RX12 32 RX1, .initialized RX1, .code yX1_init cX1_init 4 none, .methodLink RX1 3 objectInit] : List Cond), w ∈ lw_tbl := List.forall_mem_cons.mpr ⟨lm_125, List.forall_mem_cons.mpr ⟨lm_126, List.forall_mem_cons.mpr ⟨lm_127, List.forall_mem_cons.mpr ⟨lm_128, List.forall_mem_cons.mpr ⟨lm_129, List.forall_mem_cons.mpr ⟨lm_130, List.forall_mem_cons.mpr ⟨lm_131, List.forall_mem_cons.mpr ⟨lm_132, List.forall_mem_cons.mpr ⟨lm_133, List.forall_mem_cons.mpr ⟨lm_134, List.forall_mem_cons.mpr ⟨lm_135, List.forall_mem_cons.mpr ⟨lm_136, List.forall_mem_cons.mpr ⟨lm_137, List.forall_mem_cons.mpr ⟨lm_138, List.forall_mem_cons.mpr ⟨lm_139, List.forall_mem_cons.mpr ⟨lm_140, List.forall_mem_cons.mpr ⟨lm_141, List.forall_mem_cons.mpr ⟨lm_142, List.forall_mem_cons.mpr ⟨lm_143, List.forall_mem_cons.mpr ⟨lm_144, List.forall_mem_cons.mpr ⟨lm_145, List.forall_mem_cons.mpr ⟨lm_146, List.forall_mem_cons.mpr ⟨lm_147, List.forall_mem_cons.mpr ⟨lm_148, List.forall_mem_cons.mpr ⟨lm_149, fun _ h => absurd h List.not_mem_nil⟩⟩⟩⟩⟩⟩⟩⟩⟩⟩⟩⟩⟩⟩⟩⟩⟩⟩⟩⟩⟩⟩⟩⟩⟩
theorem lc_6 : ∀ w ∈ ([.classLink RX1 9 RX2, .fieldLink RX1 11 "OwnedPlaces$Declarations" "functions" "[LOwnedPlaces$Function;", .fieldLink RX1 17 "OwnedPlaces$Declarations" "meanings" "[I", .fieldLink RX1 21 "OwnedPlaces$Declarations" "text" "LOwnedPlaces$Text;", .fieldLink RX1 25 "OwnedPlaces$Declarations" "types" "LOwnedPlaces$Types;", .initialized RX2, .code yX2_init cX2_init 1 none, .methodLink RX2 3 objectInit, .fieldLink RX2 9 "OwnedPlaces$Function" "lifeName" "[I", .fieldLink RX2 15 "OwnedPlaces$Function" "parameterLife" "[I", .fieldLink RX2 18 "OwnedPlaces$Function" "name" "[I", .fieldLink RX2 21 "OwnedPlaces$Function" "type" "[I", .fieldLink RX2 24 "OwnedPlaces$Function" "mutable" "[Z", .fieldLink RX2 28 "OwnedPlaces$Function" "offset" "[I", .fieldLink RX2 31 "OwnedPlaces$Function" "from" "[I", .fieldLink RX2 34 "OwnedPlaces$Function" "to" "[I", .instanceMethod yX2_init, .methodLink RX12 34 yX1_init, .instanceMethod yX1_init, .fieldLink RX12 37 "OwnedPlaces" "declared" "LOwnedPlaces$Declarations;", .classLink RX12 41 RX0, .initialized RX0, .code yX0_init cX0_init 1 none, .methodLink RX0 3 objectInit, .fieldLink RX0 9 "OwnedPlaces$Code" "op" "[I"] : List Cond), w ∈ lw_tbl := List.forall_mem_cons.mpr ⟨lm_150, List.forall_mem_cons.mpr ⟨lm_151, List.forall_mem_cons.mpr ⟨lm_152, List.forall_mem_cons.mpr ⟨lm_153, List.forall_mem_cons.mpr ⟨lm_154, List.forall_mem_cons.mpr ⟨lm_155, List.forall_mem_cons.mpr ⟨lm_156, List.forall_mem_cons.mpr ⟨lm_157, List.forall_mem_cons.mpr ⟨lm_158, List.forall_mem_cons.mpr ⟨lm_159, List.forall_mem_cons.mpr ⟨lm_160, List.forall_mem_cons.mpr ⟨lm_161, List.forall_mem_cons.mpr ⟨lm_162, List.forall_mem_cons.mpr ⟨lm_163, List.forall_mem_cons.mpr ⟨lm_164, List.forall_mem_cons.mpr ⟨lm_165, List.forall_mem_cons.mpr ⟨lm_166, List.forall_mem_cons.mpr ⟨lm_167, List.forall_mem_cons.mpr ⟨lm_168, List.forall_mem_cons.mpr ⟨lm_169, List.forall_mem_cons.mpr ⟨lm_170, List.forall_mem_cons.mpr ⟨lm_171, List.forall_mem_cons.mpr ⟨lm_172, List.forall_mem_cons.mpr ⟨lm_173, List.forall_mem_cons.mpr ⟨lm_174, fun _ h => absurd h List.not_mem_nil⟩⟩⟩⟩⟩⟩⟩⟩⟩⟩⟩⟩⟩⟩⟩⟩⟩⟩⟩⟩⟩⟩⟩⟩⟩
theorem lc_7 : ∀ w ∈ ([.fieldLink RX0 15 "OwnedPlaces$Code" "a" "[I", .fieldLink RX0 18 "OwnedPlaces$Code" "b" "[I", .fieldLink RX0 21 "OwnedPlaces$Code" "c" "[I", .fieldLink RX0 24 "OwnedPlaces$Code" "where" "[I", .fieldLink RX0 27 "OwnedPlaces$Code" "labelAt" "[I", .fieldLink RX0 30 "OwnedPlaces$Code" "placeVariable" "[I", .fieldLink RX0 33 "OwnedPlaces$Code" "placePath" "[I", .fieldLink RX0 36 "OwnedPlaces$Code" "placeLength" "[I", .fieldLink RX0 39 "OwnedPlaces$Code" "placeRoute" "[I", .fieldLink RX0 42 "OwnedPlaces$Code" "placeType" "[I", .fieldLink RX0 45 "OwnedPlaces$Code" "placeWhere" "[I", .fieldLink RX0 48 "OwnedPlaces$Code" "placeCells" "[I", .fieldLink RX0 51 "OwnedPlaces$Code" "armLabels" "[I", .instanceMethod yX0_init, .fieldLink RX12 44 "OwnedPlaces" "code" "LOwnedPlaces$Code;", .classLink RX12 48 RX11, .initialized RX11, .code yX11_init cX11_init 5 none, .methodLink RX11 3 objectInit, .fieldLink RX11 9 "OwnedPlaces$Typing" "text" "LOwnedPlaces$Text;", .fieldLink RX11 15 "OwnedPlaces$Typing" "types" "LOwnedPlaces$Types;", .fieldLink RX11 19 "OwnedPlaces$Typing" "declared" "LOwnedPlaces$Declarations;", .fieldLink RX11 23 "OwnedPlaces$Typing" "code" "LOwnedPlaces$Code;", .methodLink RX12 50 yX11_init, .instanceMethod yX11_init] : List Cond), w ∈ lw_tbl := List.forall_mem_cons.mpr ⟨lm_175, List.forall_mem_cons.mpr ⟨lm_176, List.forall_mem_cons.mpr ⟨lm_177, List.forall_mem_cons.mpr ⟨lm_178, List.forall_mem_cons.mpr ⟨lm_179, List.forall_mem_cons.mpr ⟨lm_180, List.forall_mem_cons.mpr ⟨lm_181, List.forall_mem_cons.mpr ⟨lm_182, List.forall_mem_cons.mpr ⟨lm_183, List.forall_mem_cons.mpr ⟨lm_184, List.forall_mem_cons.mpr ⟨lm_185, List.forall_mem_cons.mpr ⟨lm_186, List.forall_mem_cons.mpr ⟨lm_187, List.forall_mem_cons.mpr ⟨lm_188, List.forall_mem_cons.mpr ⟨lm_189, List.forall_mem_cons.mpr ⟨lm_190, List.forall_mem_cons.mpr ⟨lm_191, List.forall_mem_cons.mpr ⟨lm_192, List.forall_mem_cons.mpr ⟨lm_193, List.forall_mem_cons.mpr ⟨lm_194, List.forall_mem_cons.mpr ⟨lm_195, List.forall_mem_cons.mpr ⟨lm_196, List.forall_mem_cons.mpr ⟨lm_197, List.forall_mem_cons.mpr ⟨lm_198, List.forall_mem_cons.mpr ⟨lm_199, fun _ h => absurd h List.not_mem_nil⟩⟩⟩⟩⟩⟩⟩⟩⟩⟩⟩⟩⟩⟩⟩⟩⟩⟩⟩⟩⟩⟩⟩⟩⟩
theorem lc_8 : ∀ w ∈ ([.fieldLink RX12 53 "OwnedPlaces" "typing" "LOwnedPlaces$Typing;", .classLink RX12 57 RX7, .initialized RX7, .code yX7_init cX7_init 3 none, .methodLink RX7 3 objectInit, .fieldLink RX7 9 "OwnedPlaces$Moves" "state" "[I", .constant RX7 15 44000, .fieldLink RX7 16 "OwnedPlaces$Moves" "rows" "[I", .fieldLink RX7 19 "OwnedPlaces$Moves" "reached" "[Z", .fieldLink RX7 23 "OwnedPlaces$Moves" "types" "LOwnedPlaces$Types;", .fieldLink RX7 27 "OwnedPlaces$Moves" "code" "LOwnedPlaces$Code;", .methodLink RX12 59 yX7_init, .instanceMethod yX7_init, .fieldLink RX12 62 "OwnedPlaces" "moves" "LOwnedPlaces$Moves;", .classLink RX12 66 RX4, .initialized RX4, .code yX4_init cX4_init 4 none, .methodLink RX4 3 objectInit, .fieldLink RX4 9 "OwnedPlaces$Loans" "usedBehind" "[J", .fieldLink RX4 15 "OwnedPlaces$Loans" "usedAt" "[J", .fieldLink RX4 18 "OwnedPlaces$Loans" "held" "[J", .constant RX4 21 44000, .fieldLink RX4 22 "OwnedPlaces$Loans" "rows" "[J", .fieldLink RX4 25 "OwnedPlaces$Loans" "reached" "[Z", .fieldLink RX4 29 "OwnedPlaces$Loans" "temps" "[J"] : List Cond), w ∈ lw_tbl := List.forall_mem_cons.mpr ⟨lm_200, List.forall_mem_cons.mpr ⟨lm_201, List.forall_mem_cons.mpr ⟨lm_202, List.forall_mem_cons.mpr ⟨lm_203, List.forall_mem_cons.mpr ⟨lm_204, List.forall_mem_cons.mpr ⟨lm_205, List.forall_mem_cons.mpr ⟨lm_206, List.forall_mem_cons.mpr ⟨lm_207, List.forall_mem_cons.mpr ⟨lm_208, List.forall_mem_cons.mpr ⟨lm_209, List.forall_mem_cons.mpr ⟨lm_210, List.forall_mem_cons.mpr ⟨lm_211, List.forall_mem_cons.mpr ⟨lm_212, List.forall_mem_cons.mpr ⟨lm_213, List.forall_mem_cons.mpr ⟨lm_214, List.forall_mem_cons.mpr ⟨lm_215, List.forall_mem_cons.mpr ⟨lm_216, List.forall_mem_cons.mpr ⟨lm_217, List.forall_mem_cons.mpr ⟨lm_218, List.forall_mem_cons.mpr ⟨lm_219, List.forall_mem_cons.mpr ⟨lm_220, List.forall_mem_cons.mpr ⟨lm_221, List.forall_mem_cons.mpr ⟨lm_222, List.forall_mem_cons.mpr ⟨lm_223, List.forall_mem_cons.mpr ⟨lm_224, fun _ h => absurd h List.not_mem_nil⟩⟩⟩⟩⟩⟩⟩⟩⟩⟩⟩⟩⟩⟩⟩⟩⟩⟩⟩⟩⟩⟩⟩⟩⟩
theorem lc_9 : ∀ w ∈ ([.fieldLink RX4 32 "OwnedPlaces$Loans" "placeOf" "[I", .fieldLink RX4 36 "OwnedPlaces$Loans" "heldByLoan" "[J", .fieldLink RX4 39 "OwnedPlaces$Loans" "loansOn" "[J", .fieldLink RX4 42 "OwnedPlaces$Loans" "types" "LOwnedPlaces$Types;", .fieldLink RX4 46 "OwnedPlaces$Loans" "code" "LOwnedPlaces$Code;", .fieldLink RX4 50 "OwnedPlaces$Loans" "declared" "LOwnedPlaces$Declarations;", .methodLink RX12 68 yX4_init, .instanceMethod yX4_init, .fieldLink RX12 71 "OwnedPlaces" "loans" "LOwnedPlaces$Loans;", .classLink RX12 75 RX8, .initialized RX8, .code yX8_init cX8_init 2 none, .methodLink RX8 1 objectInit, .fieldLink RX8 7 "OwnedPlaces$Queue" "digits" "[B", .fieldLink RX8 13 "OwnedPlaces$Queue" "row" "[J", .methodLink RX12 77 yX8_init, .instanceMethod yX8_init, .fieldLink RX12 80 "OwnedPlaces" "numbers" "LOwnedPlaces$Queue;", .fieldLink RX12 84 "OwnedPlaces" "waiting" "LOwnedPlaces$Queue;", .fieldLink RX12 87 "OwnedPlaces" "lastPlace" "I", .classLink RX12 91 RX6, .initialized RX6, .code yX6_init cX6_init 4 none, .methodLink RX6 3 objectInit, .fieldLink RX6 9 "OwnedPlaces$Memory" "dropType" "[I"] : List Cond), w ∈ lw_tbl := List.forall_mem_cons.mpr ⟨lm_225, List.forall_mem_cons.mpr ⟨lm_226, List.forall_mem_cons.mpr ⟨lm_227, List.forall_mem_cons.mpr ⟨lm_228, List.forall_mem_cons.mpr ⟨lm_229, List.forall_mem_cons.mpr ⟨lm_230, List.forall_mem_cons.mpr ⟨lm_231, List.forall_mem_cons.mpr ⟨lm_232, List.forall_mem_cons.mpr ⟨lm_233, List.forall_mem_cons.mpr ⟨lm_234, List.forall_mem_cons.mpr ⟨lm_235, List.forall_mem_cons.mpr ⟨lm_236, List.forall_mem_cons.mpr ⟨lm_237, List.forall_mem_cons.mpr ⟨lm_238, List.forall_mem_cons.mpr ⟨lm_239, List.forall_mem_cons.mpr ⟨lm_240, List.forall_mem_cons.mpr ⟨lm_241, List.forall_mem_cons.mpr ⟨lm_242, List.forall_mem_cons.mpr ⟨lm_243, List.forall_mem_cons.mpr ⟨lm_244, List.forall_mem_cons.mpr ⟨lm_245, List.forall_mem_cons.mpr ⟨lm_246, List.forall_mem_cons.mpr ⟨lm_247, List.forall_mem_cons.mpr ⟨lm_248, List.forall_mem_cons.mpr ⟨lm_249, fun _ h => absurd h List.not_mem_nil⟩⟩⟩⟩⟩⟩⟩⟩⟩⟩⟩⟩⟩⟩⟩⟩⟩⟩⟩⟩⟩⟩⟩⟩⟩
theorem lc_10 : ∀ w ∈ ([.fieldLink RX6 15 "OwnedPlaces$Memory" "dropAt" "[I", .fieldLink RX6 18 "OwnedPlaces$Memory" "dropCells" "[I", .fieldLink RX6 21 "OwnedPlaces$Memory" "types" "LOwnedPlaces$Types;", .fieldLink RX6 25 "OwnedPlaces$Memory" "waiting" "LOwnedPlaces$Queue;", .fieldLink RX6 29 "OwnedPlaces$Memory" "heap" "I", .fieldLink RX6 33 "OwnedPlaces$Memory" "cells" "[J", .fieldLink RX6 37 "OwnedPlaces$Memory" "taken" "[B", .methodLink RX12 93 yX6_init, .instanceMethod yX6_init, .fieldLink RX12 96 "OwnedPlaces" "memory" "LOwnedPlaces$Memory;", .classLink RX12 100 RX5, .initialized RX5, .code yX5_init cX5_init 7 none, .methodLink RX5 3 objectInit, .classLink RX5 9 RX2, .fieldLink RX5 11 "OwnedPlaces$Machine" "callers" "[LOwnedPlaces$Function;", .fieldLink RX5 17 "OwnedPlaces$Machine" "callerNext" "[I", .fieldLink RX5 21 "OwnedPlaces$Machine" "callerBase" "[I", .fieldLink RX5 24 "OwnedPlaces$Machine" "filled" "[I", .fieldLink RX5 27 "OwnedPlaces$Machine" "code" "LOwnedPlaces$Code;", .fieldLink RX5 31 "OwnedPlaces$Machine" "types" "LOwnedPlaces$Types;", .fieldLink RX5 35 "OwnedPlaces$Machine" "declared" "LOwnedPlaces$Declarations;", .fieldLink RX5 39 "OwnedPlaces$Machine" "memory" "LOwnedPlaces$Memory;", .fieldLink RX5 43 "OwnedPlaces$Machine" "numbers" "LOwnedPlaces$Queue;", .fieldLink RX5 47 "OwnedPlaces$Machine" "waiting" "LOwnedPlaces$Queue;"] : List Cond), w ∈ lw_tbl := List.forall_mem_cons.mpr ⟨lm_250, List.forall_mem_cons.mpr ⟨lm_251, List.forall_mem_cons.mpr ⟨lm_252, List.forall_mem_cons.mpr ⟨lm_253, List.forall_mem_cons.mpr ⟨lm_254, List.forall_mem_cons.mpr ⟨lm_255, List.forall_mem_cons.mpr ⟨lm_256, List.forall_mem_cons.mpr ⟨lm_257, List.forall_mem_cons.mpr ⟨lm_258, List.forall_mem_cons.mpr ⟨lm_259, List.forall_mem_cons.mpr ⟨lm_260, List.forall_mem_cons.mpr ⟨lm_261, List.forall_mem_cons.mpr ⟨lm_262, List.forall_mem_cons.mpr ⟨lm_263, List.forall_mem_cons.mpr ⟨lm_264, List.forall_mem_cons.mpr ⟨lm_265, List.forall_mem_cons.mpr ⟨lm_266, List.forall_mem_cons.mpr ⟨lm_267, List.forall_mem_cons.mpr ⟨lm_268, List.forall_mem_cons.mpr ⟨lm_269, List.forall_mem_cons.mpr ⟨lm_270, List.forall_mem_cons.mpr ⟨lm_271, List.forall_mem_cons.mpr ⟨lm_272, List.forall_mem_cons.mpr ⟨lm_273, List.forall_mem_cons.mpr ⟨lm_274, fun _ h => absurd h List.not_mem_nil⟩⟩⟩⟩⟩⟩⟩⟩⟩⟩⟩⟩⟩⟩⟩⟩⟩⟩⟩⟩⟩⟩⟩⟩⟩
theorem lc_11 : ∀ w ∈ ([.methodLink RX12 102 yX5_init, .instanceMethod yX5_init, .fieldLink RX12 105 "OwnedPlaces" "machine" "LOwnedPlaces$Machine;", .methodLink RL 15 yX12_init, .instanceMethod yX12_init, .classLink RL 18 RX23, .initialized RX23, .code yX23_init cX23_init 2 none, .methodLink RX23 923 objectInit, .fieldLink RX23 7 "OwnedPlacesModel" "text" "[I", .fieldLink RX23 25 "OwnedPlacesModel" "tokenKind" "[I", .fieldLink RX23 31 "OwnedPlacesModel" "tokenAt" "[I", .fieldLink RX23 34 "OwnedPlacesModel" "tokenEnd" "[I", .fieldLink RX23 37 "OwnedPlacesModel" "tokenNumber" "[J", .classLink RX23 140 RX16, .fieldLink RX23 232 "OwnedPlacesModel" "items" "[LOwnedPlacesModel$Item;", .classLink RX23 164 RX20, .fieldLink RX23 385 "OwnedPlacesModel" "types" "[LOwnedPlacesModel$Type;", .fieldLink RX23 432 "OwnedPlacesModel" "holds" "[Z", .classLink RX23 192 RX21, .fieldLink RX23 474 "OwnedPlacesModel" "scope" "[LOwnedPlacesModel$Variable;", .fieldLink RX23 625 "OwnedPlacesModel" "kind" "[I", .fieldLink RX23 629 "OwnedPlacesModel" "one" "[I", .fieldLink RX23 632 "OwnedPlacesModel" "two" "[I", .fieldLink RX23 635 "OwnedPlacesModel" "jump" "[I"] : List Cond), w ∈ lw_tbl := List.forall_mem_cons.mpr ⟨lm_275, List.forall_mem_cons.mpr ⟨lm_276, List.forall_mem_cons.mpr ⟨lm_277, List.forall_mem_cons.mpr ⟨lm_278, List.forall_mem_cons.mpr ⟨lm_279, List.forall_mem_cons.mpr ⟨lm_280, List.forall_mem_cons.mpr ⟨lm_281, List.forall_mem_cons.mpr ⟨lm_282, List.forall_mem_cons.mpr ⟨lm_283, List.forall_mem_cons.mpr ⟨lm_284, List.forall_mem_cons.mpr ⟨lm_285, List.forall_mem_cons.mpr ⟨lm_286, List.forall_mem_cons.mpr ⟨lm_287, List.forall_mem_cons.mpr ⟨lm_288, List.forall_mem_cons.mpr ⟨lm_289, List.forall_mem_cons.mpr ⟨lm_290, List.forall_mem_cons.mpr ⟨lm_291, List.forall_mem_cons.mpr ⟨lm_292, List.forall_mem_cons.mpr ⟨lm_293, List.forall_mem_cons.mpr ⟨lm_294, List.forall_mem_cons.mpr ⟨lm_295, List.forall_mem_cons.mpr ⟨lm_296, List.forall_mem_cons.mpr ⟨lm_297, List.forall_mem_cons.mpr ⟨lm_298, List.forall_mem_cons.mpr ⟨lm_299, fun _ h => absurd h List.not_mem_nil⟩⟩⟩⟩⟩⟩⟩⟩⟩⟩⟩⟩⟩⟩⟩⟩⟩⟩⟩⟩⟩⟩⟩⟩⟩
theorem lc_12 : ∀ w ∈ ([.fieldLink RX23 638 "OwnedPlacesModel" "number" "[J", .fieldLink RX23 627 "OwnedPlacesModel" "token" "[I", .fieldLink RX23 640 "OwnedPlacesModel" "access" "[I", .fieldLink RX23 643 "OwnedPlacesModel" "holder" "[I", .fieldLink RX23 646 "OwnedPlacesModel" "loan" "[I", .classLink RX23 926 "[I", .fieldLink RX23 649 "OwnedPlacesModel" "from" "[[I", .fieldLink RX23 653 "OwnedPlacesModel" "used" "[[I", .classLink RX23 678 RX18, .fieldLink RX23 656 "OwnedPlacesModel" "path" "[LOwnedPlacesModel$Path;", .fieldLink RX23 660 "OwnedPlacesModel" "ofType" "[LOwnedPlacesModel$Type;", .fieldLink RX23 663 "OwnedPlacesModel" "variable" "[LOwnedPlacesModel$Variable;", .classLink RX23 315 RX13, .fieldLink RX23 665 "OwnedPlacesModel" "armOf" "[LOwnedPlacesModel$Arm;", .fieldLink RX23 668 "OwnedPlacesModel" "targets" "[[I", .fieldLink RX23 720 "OwnedPlacesModel" "loanPath" "[LOwnedPlacesModel$Path;", .fieldLink RX23 726 "OwnedPlacesModel" "loanShared" "[Z", .fieldLink RX23 729 "OwnedPlacesModel" "outerOf" "[I", .fieldLink RX23 810 "OwnedPlacesModel" "outerLife" "[I", .fieldLink RX23 763 "OwnedPlacesModel" "alive" "[LOwnedPlacesModel$Variable;", .fieldLink RX23 671 "OwnedPlacesModel" "single" "[[I", .fieldLink RX23 814 "OwnedPlacesModel" "reached" "[Z", .constant RX23 927 240000, .fieldLink RX23 838 "OwnedPlacesModel" "without" "[J", .fieldLink RX23 841 "OwnedPlacesModel" "having" "[J"] : List Cond), w ∈ lw_tbl := List.forall_mem_cons.mpr ⟨lm_300, List.forall_mem_cons.mpr ⟨lm_301, List.forall_mem_cons.mpr ⟨lm_302, List.forall_mem_cons.mpr ⟨lm_303, List.forall_mem_cons.mpr ⟨lm_304, List.forall_mem_cons.mpr ⟨lm_305, List.forall_mem_cons.mpr ⟨lm_306, List.forall_mem_cons.mpr ⟨lm_307, List.forall_mem_cons.mpr ⟨lm_308, List.forall_mem_cons.mpr ⟨lm_309, List.forall_mem_cons.mpr ⟨lm_310, List.forall_mem_cons.mpr ⟨lm_311, List.forall_mem_cons.mpr ⟨lm_312, List.forall_mem_cons.mpr ⟨lm_313, List.forall_mem_cons.mpr ⟨lm_314, List.forall_mem_cons.mpr ⟨lm_315, List.forall_mem_cons.mpr ⟨lm_316, List.forall_mem_cons.mpr ⟨lm_317, List.forall_mem_cons.mpr ⟨lm_318, List.forall_mem_cons.mpr ⟨lm_319, List.forall_mem_cons.mpr ⟨lm_320, List.forall_mem_cons.mpr ⟨lm_321, List.forall_mem_cons.mpr ⟨lm_322, List.forall_mem_cons.mpr ⟨lm_323, List.forall_mem_cons.mpr ⟨lm_324, fun _ h => absurd h List.not_mem_nil⟩⟩⟩⟩⟩⟩⟩⟩⟩⟩⟩⟩⟩⟩⟩⟩⟩⟩⟩⟩⟩⟩⟩⟩⟩
theorem lc_13 : ∀ w ∈ ([.fieldLink RX23 835 "OwnedPlacesModel" "outWithout" "[J", .fieldLink RX23 828 "OwnedPlacesModel" "outHaving" "[J", .constant RX23 928 96000, .fieldLink RX23 876 "OwnedPlacesModel" "lives" "[J", .fieldLink RX23 884 "OwnedPlacesModel" "holding" "[J", .fieldLink RX23 881 "OwnedPlacesModel" "behind" "[J", .constant RX23 929 430000, .fieldLink RX23 930 "OwnedPlacesModel" "worth" "[J", .fieldLink RX23 933 "OwnedPlacesModel" "has" "[Z", .fieldLink RX23 936 "OwnedPlacesModel" "next" "[I", .fieldLink RX23 939 "OwnedPlacesModel" "taken" "[Z", .fieldLink RX23 942 "OwnedPlacesModel" "stack" "[J", .fieldLink RX23 945 "OwnedPlacesModel" "place" "[I", .fieldLink RX23 947 "OwnedPlacesModel" "frameBack" "[I", .constant RX23 950 90000, .fieldLink RX23 951 "OwnedPlacesModel" "doWhat" "[I", .fieldLink RX23 954 "OwnedPlacesModel" "doType" "[I", .fieldLink RX23 957 "OwnedPlacesModel" "doNode" "[I", .fieldLink RX23 960 "OwnedPlacesModel" "waiting" "[I", .fieldLink RX23 963 "OwnedPlacesModel" "inputs" "[J", .fieldLink RX23 966 "OwnedPlacesModel" "told" "I", .fieldLink RX23 968 "OwnedPlacesModel" "heapLong" "I", .methodLink RL 20 yX23_init, .instanceMethod yX23_init, .code yX12_feed cX12_feed 6 (some .boolean)] : List Cond), w ∈ lw_tbl := List.forall_mem_cons.mpr ⟨lm_325, List.forall_mem_cons.mpr ⟨lm_326, List.forall_mem_cons.mpr ⟨lm_327, List.forall_mem_cons.mpr ⟨lm_328, List.forall_mem_cons.mpr ⟨lm_329, List.forall_mem_cons.mpr ⟨lm_330, List.forall_mem_cons.mpr ⟨lm_331, List.forall_mem_cons.mpr ⟨lm_332, List.forall_mem_cons.mpr ⟨lm_333, List.forall_mem_cons.mpr ⟨lm_334, List.forall_mem_cons.mpr ⟨lm_335, List.forall_mem_cons.mpr ⟨lm_336, List.forall_mem_cons.mpr ⟨lm_337, List.forall_mem_cons.mpr ⟨lm_338, List.forall_mem_cons.mpr ⟨lm_339, List.forall_mem_cons.mpr ⟨lm_340, List.forall_mem_cons.mpr ⟨lm_341, List.forall_mem_cons.mpr ⟨lm_342, List.forall_mem_cons.mpr ⟨lm_343, List.forall_mem_cons.mpr ⟨lm_344, List.forall_mem_cons.mpr ⟨lm_345, List.forall_mem_cons.mpr ⟨lm_346, List.forall_mem_cons.mpr ⟨lm_347, List.forall_mem_cons.mpr ⟨lm_348, List.forall_mem_cons.mpr ⟨lm_349, fun _ h => absurd h List.not_mem_nil⟩⟩⟩⟩⟩⟩⟩⟩⟩⟩⟩⟩⟩⟩⟩⟩⟩⟩⟩⟩⟩⟩⟩⟩⟩
theorem lc_14 : ∀ w ∈ ([.fieldLink RX12 109 "OwnedPlaces$Text" "length" "I", .code yX9_append cX9_append 3 none, .fieldLink RX9 81 "OwnedPlaces$Text" "length" "I", .methodLink RX12 112 yX9_append, .instanceMethod yX9_append, .selects RX9 yX9_append yX9_append, .methodLink RL 21 yX12_feed, .instanceMethod yX12_feed, .selects RX12 yX12_feed yX12_feed, .code yX23_feed cX23_feed 6 (some .boolean), .fieldLink RX23 1167 "OwnedPlacesModel" "length" "I", .code yX23_feedWord cX23_feedWord 3 none, .methodLink RX23 1170 yX23_feedWord, .instanceMethod yX23_feedWord, .selects RX23 yX23_feedWord yX23_feedWord, .methodLink RL 25 yX23_feed, .instanceMethod yX23_feed, .selects RX23 yX23_feed yX23_feed, .constantLong RL 26 4294967295, .code yX12_input cX12_input 3 (some .boolean), .code yX8_put cX8_put 3 (some .boolean), .fieldLink RX8 17 "OwnedPlaces$Queue" "size" "I", .fieldLink RX8 21 "OwnedPlaces$Queue" "first" "I", .methodLink RX12 115 yX8_put, .instanceMethod yX8_put] : List Cond), w ∈ lw_tbl := List.forall_mem_cons.mpr ⟨lm_350, List.forall_mem_cons.mpr ⟨lm_351, List.forall_mem_cons.mpr ⟨lm_352, List.forall_mem_cons.mpr ⟨lm_353, List.forall_mem_cons.mpr ⟨lm_354, List.forall_mem_cons.mpr ⟨lm_355, List.forall_mem_cons.mpr ⟨lm_356, List.forall_mem_cons.mpr ⟨lm_357, List.forall_mem_cons.mpr ⟨lm_358, List.forall_mem_cons.mpr ⟨lm_359, List.forall_mem_cons.mpr ⟨lm_360, List.forall_mem_cons.mpr ⟨lm_361, List.forall_mem_cons.mpr ⟨lm_362, List.forall_mem_cons.mpr ⟨lm_363, List.forall_mem_cons.mpr ⟨lm_364, List.forall_mem_cons.mpr ⟨lm_365, List.forall_mem_cons.mpr ⟨lm_366, List.forall_mem_cons.mpr ⟨lm_367, List.forall_mem_cons.mpr ⟨lm_368, List.forall_mem_cons.mpr ⟨lm_369, List.forall_mem_cons.mpr ⟨lm_370, List.forall_mem_cons.mpr ⟨lm_371, List.forall_mem_cons.mpr ⟨lm_372, List.forall_mem_cons.mpr ⟨lm_373, List.forall_mem_cons.mpr ⟨lm_374, fun _ h => absurd h List.not_mem_nil⟩⟩⟩⟩⟩⟩⟩⟩⟩⟩⟩⟩⟩⟩⟩⟩⟩⟩⟩⟩⟩⟩⟩⟩⟩
theorem lc_15 : ∀ w ∈ ([.selects RX8 yX8_put yX8_put, .methodLink RL 28 yX12_input, .instanceMethod yX12_input, .selects RX12 yX12_input yX12_input, .code yX23_input cX23_input 3 (some .boolean), .fieldLink RX23 1113 "OwnedPlacesModel" "inputMany" "I", .methodLink RL 32 yX23_input, .instanceMethod yX23_input, .selects RX23 yX23_input yX23_input, .code yX12_run cX12_run 4 (some .int), .code yX6_clear cX6_clear 1 none, .code yJ7_fill_031fb cJ7_fill_031fb 4 none, .methodLink RX6 41 yJ7_fill_031fb, .static yJ7_fill_031fb, .fieldLink RX6 47 "OwnedPlaces$Memory" "lowest" "I", .fieldLink RX6 50 "OwnedPlaces$Memory" "inUse" "I", .fieldLink RX6 53 "OwnedPlaces$Memory" "mostInUse" "I", .methodLink RX12 119 yX6_clear, .instanceMethod yX6_clear, .selects RX6 yX6_clear yX6_clear, .code yX12_lookOver cX12_lookOver 5 none, .code yX9_read cX9_read 4 none, .fieldLink RX9 92 "OwnedPlaces$Text" "total" "I", .fieldLink RX9 95 "OwnedPlaces$Text" "fault" "I", .code yX9_add cX9_add 4 none] : List Cond), w ∈ lw_tbl := List.forall_mem_cons.mpr ⟨lm_375, List.forall_mem_cons.mpr ⟨lm_376, List.forall_mem_cons.mpr ⟨lm_377, List.forall_mem_cons.mpr ⟨lm_378, List.forall_mem_cons.mpr ⟨lm_379, List.forall_mem_cons.mpr ⟨lm_380, List.forall_mem_cons.mpr ⟨lm_381, List.forall_mem_cons.mpr ⟨lm_382, List.forall_mem_cons.mpr ⟨lm_383, List.forall_mem_cons.mpr ⟨lm_384, List.forall_mem_cons.mpr ⟨lm_385, List.forall_mem_cons.mpr ⟨lm_386, List.forall_mem_cons.mpr ⟨lm_387, List.forall_mem_cons.mpr ⟨lm_388, List.forall_mem_cons.mpr ⟨lm_389, List.forall_mem_cons.mpr ⟨lm_390, List.forall_mem_cons.mpr ⟨lm_391, List.forall_mem_cons.mpr ⟨lm_392, List.forall_mem_cons.mpr ⟨lm_393, List.forall_mem_cons.mpr ⟨lm_394, List.forall_mem_cons.mpr ⟨lm_395, List.forall_mem_cons.mpr ⟨lm_396, List.forall_mem_cons.mpr ⟨lm_397, List.forall_mem_cons.mpr ⟨lm_398, List.forall_mem_cons.mpr ⟨lm_399, fun _ h => absurd h List.not_mem_nil⟩⟩⟩⟩⟩⟩⟩⟩⟩⟩⟩⟩⟩⟩⟩⟩⟩⟩⟩⟩⟩⟩⟩⟩⟩
theorem lc_16 : ∀ w ∈ ([.methodLink RX9 102 yX9_add, .instanceMethod yX9_add, .selects RX9 yX9_add yX9_add, .fieldLink RX9 106 "OwnedPlaces$Text" "now" "I", .methodLink RX12 162 yX9_read, .instanceMethod yX9_read, .selects RX9 yX9_read yX9_read, .code yX3_program cX3_program 3 none, .fieldLink RX3 19 "OwnedPlaces$Grammar" "total" "I", .fieldLink RX3 23 "OwnedPlaces$Grammar" "shapes" "I", .fieldLink RX3 26 "OwnedPlaces$Grammar" "functions" "I", .code yX9_kind cX9_kind 1 (some .int), .methodLink RX3 29 yX9_kind, .instanceMethod yX9_kind, .selects RX9 yX9_kind yX9_kind, .methodLink RX12 165 yX3_program, .instanceMethod yX3_program, .selects RX3 yX3_program yX3_program, .fieldLink RX12 131 "OwnedPlaces$Text" "fault" "I", .code yX1_read cX1_read 3 none, .fieldLink RX1 30 "OwnedPlaces$Declarations" "total" "I", .code yX10_clear cX10_clear 2 none, .fieldLink RX10 55 "OwnedPlaces$Types" "shapes" "I", .fieldLink RX10 59 "OwnedPlaces$Types" "total" "I", .code yX10_make cX10_make 4 (some .int)] : List Cond), w ∈ lw_tbl := List.forall_mem_cons.mpr ⟨lm_400, List.forall_mem_cons.mpr ⟨lm_401, List.forall_mem_cons.mpr ⟨lm_402, List.forall_mem_cons.mpr ⟨lm_403, List.forall_mem_cons.mpr ⟨lm_404, List.forall_mem_cons.mpr ⟨lm_405, List.forall_mem_cons.mpr ⟨lm_406, List.forall_mem_cons.mpr ⟨lm_407, List.forall_mem_cons.mpr ⟨lm_408, List.forall_mem_cons.mpr ⟨lm_409, List.forall_mem_cons.mpr ⟨lm_410, List.forall_mem_cons.mpr ⟨lm_411, List.forall_mem_cons.mpr ⟨lm_412, List.forall_mem_cons.mpr ⟨lm_413, List.forall_mem_cons.mpr ⟨lm_414, List.forall_mem_cons.mpr ⟨lm_415, List.forall_mem_cons.mpr ⟨lm_416, List.forall_mem_cons.mpr ⟨lm_417, List.forall_mem_cons.mpr ⟨lm_418, List.forall_mem_cons.mpr ⟨lm_419, List.forall_mem_cons.mpr ⟨lm_420, List.forall_mem_cons.mpr ⟨lm_421, List.forall_mem_cons.mpr ⟨lm_422, List.forall_mem_cons.mpr ⟨lm_423, List.forall_mem_cons.mpr ⟨lm_424, fun _ h => absurd h List.not_mem_nil⟩⟩⟩⟩⟩⟩⟩⟩⟩⟩⟩⟩⟩⟩⟩⟩⟩⟩⟩⟩⟩⟩⟩⟩⟩
theorem lc_17 : ∀ w ∈ ([.methodLink RX10 62 yX10_make, .instanceMethod yX10_make, .selects RX10 yX10_make yX10_make, .methodLink RX1 34 yX10_clear, .instanceMethod yX10_clear, .selects RX10 yX10_clear yX10_clear, .fieldLink RX1 39 "OwnedPlaces$Text" "nameTotal" "I", .code yJ7_fill_fda19 cJ7_fill_fda19 5 none, .code yJ7_rangeCheck_23922 cJ7_rangeCheck_23922 3 none, .methodLink RJ7 13 yJ7_rangeCheck_23922, .static yJ7_rangeCheck_23922, .methodLink RX1 44 yJ7_fill_fda19, .static yJ7_fill_fda19, .fieldLink RX1 50 "OwnedPlaces$Grammar" "total" "I", .fieldLink RX1 53 "OwnedPlaces$Text" "fault" "I", .code yX10_measure cX10_measure 3 none, .methodLink RX1 66 yX10_measure, .instanceMethod yX10_measure, .selects RX10 yX10_measure yX10_measure, .code yX1_checkSizes cX1_checkSizes 3 none, .fieldLink RX1 207 "OwnedPlaces$Types" "shapes" "I", .methodLink RX1 69 yX1_checkSizes, .instanceMethod yX1_checkSizes, .selects RX1 yX1_checkSizes yX1_checkSizes, .code yX1_checkMain cX1_checkMain 2 none] : List Cond), w ∈ lw_tbl := List.forall_mem_cons.mpr ⟨lm_425, List.forall_mem_cons.mpr ⟨lm_426, List.forall_mem_cons.mpr ⟨lm_427, List.forall_mem_cons.mpr ⟨lm_428, List.forall_mem_cons.mpr ⟨lm_429, List.forall_mem_cons.mpr ⟨lm_430, List.forall_mem_cons.mpr ⟨lm_431, List.forall_mem_cons.mpr ⟨lm_432, List.forall_mem_cons.mpr ⟨lm_433, List.forall_mem_cons.mpr ⟨lm_434, List.forall_mem_cons.mpr ⟨lm_435, List.forall_mem_cons.mpr ⟨lm_436, List.forall_mem_cons.mpr ⟨lm_437, List.forall_mem_cons.mpr ⟨lm_438, List.forall_mem_cons.mpr ⟨lm_439, List.forall_mem_cons.mpr ⟨lm_440, List.forall_mem_cons.mpr ⟨lm_441, List.forall_mem_cons.mpr ⟨lm_442, List.forall_mem_cons.mpr ⟨lm_443, List.forall_mem_cons.mpr ⟨lm_444, List.forall_mem_cons.mpr ⟨lm_445, List.forall_mem_cons.mpr ⟨lm_446, List.forall_mem_cons.mpr ⟨lm_447, List.forall_mem_cons.mpr ⟨lm_448, List.forall_mem_cons.mpr ⟨lm_449, fun _ h => absurd h List.not_mem_nil⟩⟩⟩⟩⟩⟩⟩⟩⟩⟩⟩⟩⟩⟩⟩⟩⟩⟩⟩⟩⟩⟩⟩⟩⟩
theorem lc_18 : ∀ w ∈ ([.code yX1_functionOf cX1_functionOf 2 (some .int), .methodLink RX1 216 yX1_functionOf, .instanceMethod yX1_functionOf, .selects RX1 yX1_functionOf yX1_functionOf, .fieldLink RX1 219 "OwnedPlaces$Declarations" "main" "I", .code yX9_step cX9_step 2 none, .methodLink RX9 109 Lib.Math.min.name, .static Lib.Math.min.name, .initialized "java/lang/Math", .code Lib.Math.min.name Lib.Math.min.code 2 (some .int), .methodLink RX1 105 yX9_step, .instanceMethod yX9_step, .selects RX9 yX9_step yX9_step, .code yX9_where cX9_where 1 (some .int), .methodLink RX1 130 yX9_where, .instanceMethod yX9_where, .selects RX9 yX9_where yX9_where, .code yX9_fail cX9_fail 3 none, .methodLink RX1 88 yX9_fail, .instanceMethod yX9_fail, .selects RX9 yX9_fail yX9_fail, .methodLink RX1 72 yX1_checkMain, .instanceMethod yX1_checkMain, .selects RX1 yX1_checkMain yX1_checkMain, .methodLink RX12 168 yX1_read] : List Cond), w ∈ lw_tbl := List.forall_mem_cons.mpr ⟨lm_450, List.forall_mem_cons.mpr ⟨lm_451, List.forall_mem_cons.mpr ⟨lm_452, List.forall_mem_cons.mpr ⟨lm_453, List.forall_mem_cons.mpr ⟨lm_454, List.forall_mem_cons.mpr ⟨lm_455, List.forall_mem_cons.mpr ⟨lm_456, List.forall_mem_cons.mpr ⟨lm_457, List.forall_mem_cons.mpr ⟨lm_458, List.forall_mem_cons.mpr ⟨lm_459, List.forall_mem_cons.mpr ⟨lm_460, List.forall_mem_cons.mpr ⟨lm_461, List.forall_mem_cons.mpr ⟨lm_462, List.forall_mem_cons.mpr ⟨lm_463, List.forall_mem_cons.mpr ⟨lm_464, List.forall_mem_cons.mpr ⟨lm_465, List.forall_mem_cons.mpr ⟨lm_466, List.forall_mem_cons.mpr ⟨lm_467, List.forall_mem_cons.mpr ⟨lm_468, List.forall_mem_cons.mpr ⟨lm_469, List.forall_mem_cons.mpr ⟨lm_470, List.forall_mem_cons.mpr ⟨lm_471, List.forall_mem_cons.mpr ⟨lm_472, List.forall_mem_cons.mpr ⟨lm_473, List.forall_mem_cons.mpr ⟨lm_474, fun _ h => absurd h List.not_mem_nil⟩⟩⟩⟩⟩⟩⟩⟩⟩⟩⟩⟩⟩⟩⟩⟩⟩⟩⟩⟩⟩⟩⟩⟩⟩
theorem lc_19 : ∀ w ∈ ([.instanceMethod yX1_read, .selects RX1 yX1_read yX1_read, .fieldLink RX12 172 "OwnedPlaces$Declarations" "total" "I", .methodLink RX12 122 yX12_lookOver, .instanceMethod yX12_lookOver, .selects RX12 yX12_lookOver yX12_lookOver, .fieldLink RX12 125 "OwnedPlaces$Text" "place" "I", .fieldLink RX12 128 "OwnedPlaces" "fuelLeft" "I", .methodLink RL 33 yX12_run, .instanceMethod yX12_run, .selects RX12 yX12_run yX12_run, .code yX23_run cX23_run 3 (some .int), .fieldLink RX23 1 "OwnedPlacesModel" "size" "I", .fieldLink RX23 80 "OwnedPlacesModel" "fault" "I", .fieldLink RX23 83 "OwnedPlacesModel" "faultAt" "I", .fieldLink RX23 1093 "OwnedPlacesModel" "fuel" "I", .fieldLink RX23 1002 "OwnedPlacesModel" "inUse" "I", .fieldLink RX23 1008 "OwnedPlacesModel" "most" "I", .code yX23_scan cX23_scan 4 none, .fieldLink RX23 28 "OwnedPlacesModel" "tokens" "I", .code yX23_behindBlanks cX23_behindBlanks 4 (some .int), .code yX23_at cX23_at 2 (some .int), .methodLink RX23 11 yX23_at, .instanceMethod yX23_at, .selects RX23 yX23_at yX23_at] : List Cond), w ∈ lw_tbl := List.forall_mem_cons.mpr ⟨lm_475, List.forall_mem_cons.mpr ⟨lm_476, List.forall_mem_cons.mpr ⟨lm_477, List.forall_mem_cons.mpr ⟨lm_478, List.forall_mem_cons.mpr ⟨lm_479, List.forall_mem_cons.mpr ⟨lm_480, List.forall_mem_cons.mpr ⟨lm_481, List.forall_mem_cons.mpr ⟨lm_482, List.forall_mem_cons.mpr ⟨lm_483, List.forall_mem_cons.mpr ⟨lm_484, List.forall_mem_cons.mpr ⟨lm_485, List.forall_mem_cons.mpr ⟨lm_486, List.forall_mem_cons.mpr ⟨lm_487, List.forall_mem_cons.mpr ⟨lm_488, List.forall_mem_cons.mpr ⟨lm_489, List.forall_mem_cons.mpr ⟨lm_490, List.forall_mem_cons.mpr ⟨lm_491, List.forall_mem_cons.mpr ⟨lm_492, List.forall_mem_cons.mpr ⟨lm_493, List.forall_mem_cons.mpr ⟨lm_494, List.forall_mem_cons.mpr ⟨lm_495, List.forall_mem_cons.mpr ⟨lm_496, List.forall_mem_cons.mpr ⟨lm_497, List.forall_mem_cons.mpr ⟨lm_498, List.forall_mem_cons.mpr ⟨lm_499, fun _ h => absurd h List.not_mem_nil⟩⟩⟩⟩⟩⟩⟩⟩⟩⟩⟩⟩⟩⟩⟩⟩⟩⟩⟩⟩⟩⟩⟩⟩⟩
theorem lc_20 : ∀ w ∈ ([.methodLink RX23 68 yX23_behindBlanks, .instanceMethod yX23_behindBlanks, .selects RX23 yX23_behindBlanks yX23_behindBlanks, .code yX23_addToken cX23_addToken 6 none, .methodLink RX23 51 yX23_addToken, .instanceMethod yX23_addToken, .selects RX23 yX23_addToken yX23_addToken, .methodLink RX23 1173 yX23_scan, .instanceMethod yX23_scan, .selects RX23 yX23_scan yX23_scan, .code yX23_program cX23_program 2 none, .fieldLink RX23 221 "OwnedPlacesModel" "itemMany" "I", .fieldLink RX23 171 "OwnedPlacesModel" "typeItems" "I", .fieldLink RX23 189 "OwnedPlacesModel" "functions" "I", .fieldLink RX23 86 "OwnedPlacesModel" "p" "I", .fieldLink RX23 104 "OwnedPlacesModel" "nest" "I", .code yX23_ok cX23_ok 1 (some .boolean), .methodLink RX23 89 yX23_ok, .instanceMethod yX23_ok, .selects RX23 yX23_ok yX23_ok, .code yX23_is cX23_is 2 (some .boolean), .methodLink RX23 93 yX23_is, .instanceMethod yX23_is, .selects RX23 yX23_is yX23_is, .methodLink RX23 1176 yX23_program] : List Cond), w ∈ lw_tbl := List.forall_mem_cons.mpr ⟨lm_500, List.forall_mem_cons.mpr ⟨lm_501, List.forall_mem_cons.mpr ⟨lm_502, List.forall_mem_cons.mpr ⟨lm_503, List.forall_mem_cons.mpr ⟨lm_504, List.forall_mem_cons.mpr ⟨lm_505, List.forall_mem_cons.mpr ⟨lm_506, List.forall_mem_cons.mpr ⟨lm_507, List.forall_mem_cons.mpr ⟨lm_508, List.forall_mem_cons.mpr ⟨lm_509, List.forall_mem_cons.mpr ⟨lm_510, List.forall_mem_cons.mpr ⟨lm_511, List.forall_mem_cons.mpr ⟨lm_512, List.forall_mem_cons.mpr ⟨lm_513, List.forall_mem_cons.mpr ⟨lm_514, List.forall_mem_cons.mpr ⟨lm_515, List.forall_mem_cons.mpr ⟨lm_516, List.forall_mem_cons.mpr ⟨lm_517, List.forall_mem_cons.mpr ⟨lm_518, List.forall_mem_cons.mpr ⟨lm_519, List.forall_mem_cons.mpr ⟨lm_520, List.forall_mem_cons.mpr ⟨lm_521, List.forall_mem_cons.mpr ⟨lm_522, List.forall_mem_cons.mpr ⟨lm_523, List.forall_mem_cons.mpr ⟨lm_524, fun _ h => absurd h List.not_mem_nil⟩⟩⟩⟩⟩⟩⟩⟩⟩⟩⟩⟩⟩⟩⟩⟩⟩⟩⟩⟩⟩⟩⟩⟩⟩
theorem lc_21 : ∀ w ∈ ([.instanceMethod yX23_program, .selects RX23 yX23_program yX23_program, .code yX23_typeAll cX23_typeAll 2 none, .fieldLink RX23 382 "OwnedPlacesModel" "typeMany" "I", .code yX23_itemNames cX23_itemNames 3 none, .methodLink RX23 605 yX23_itemNames, .instanceMethod yX23_itemNames, .selects RX23 yX23_itemNames yX23_itemNames, .code yX23_sizes cX23_sizes 2 none, .code yX23_endless cX23_endless 4 none, .methodLink RX23 451 yX23_endless, .instanceMethod yX23_endless, .selects RX23 yX23_endless yX23_endless, .methodLink RX23 611 yX23_sizes, .instanceMethod yX23_sizes, .selects RX23 yX23_sizes yX23_sizes, .code yX23_leaves cX23_leaves 2 none, .methodLink RX23 614 yX23_leaves, .instanceMethod yX23_leaves, .selects RX23 yX23_leaves yX23_leaves, .code yX23_findMain cX23_findMain 2 none, .fieldLink RX23 459 "OwnedPlacesModel" "main" "I", .code yX23_fail cX23_fail 3 none, .methodLink RX23 96 yX23_fail, .instanceMethod yX23_fail] : List Cond), w ∈ lw_tbl := List.forall_mem_cons.mpr ⟨lm_525, List.forall_mem_cons.mpr ⟨lm_526, List.forall_mem_cons.mpr ⟨lm_527, List.forall_mem_cons.mpr ⟨lm_528, List.forall_mem_cons.mpr ⟨lm_529, List.forall_mem_cons.mpr ⟨lm_530, List.forall_mem_cons.mpr ⟨lm_531, List.forall_mem_cons.mpr ⟨lm_532, List.forall_mem_cons.mpr ⟨lm_533, List.forall_mem_cons.mpr ⟨lm_534, List.forall_mem_cons.mpr ⟨lm_535, List.forall_mem_cons.mpr ⟨lm_536, List.forall_mem_cons.mpr ⟨lm_537, List.forall_mem_cons.mpr ⟨lm_538, List.forall_mem_cons.mpr ⟨lm_539, List.forall_mem_cons.mpr ⟨lm_540, List.forall_mem_cons.mpr ⟨lm_541, List.forall_mem_cons.mpr ⟨lm_542, List.forall_mem_cons.mpr ⟨lm_543, List.forall_mem_cons.mpr ⟨lm_544, List.forall_mem_cons.mpr ⟨lm_545, List.forall_mem_cons.mpr ⟨lm_546, List.forall_mem_cons.mpr ⟨lm_547, List.forall_mem_cons.mpr ⟨lm_548, List.forall_mem_cons.mpr ⟨lm_549, fun _ h => absurd h List.not_mem_nil⟩⟩⟩⟩⟩⟩⟩⟩⟩⟩⟩⟩⟩⟩⟩⟩⟩⟩⟩⟩⟩⟩⟩⟩⟩
theorem lc_22 : ∀ w ∈ ([.selects RX23 yX23_fail yX23_fail, .methodLink RX23 616 yX23_findMain, .instanceMethod yX23_findMain, .selects RX23 yX23_findMain yX23_findMain, .methodLink RX23 1179 yX23_typeAll, .instanceMethod yX23_typeAll, .selects RX23 yX23_typeAll yX23_typeAll, .fieldLink RX23 1188 "OwnedPlacesModel" "fuelLeft" "I", .methodLink RL 37 yX23_run, .instanceMethod yX23_run, .selects RX23 yX23_run yX23_run, .code yX12_place cX12_place 1 (some .int), .methodLink RL 38 yX12_place, .instanceMethod yX12_place, .selects RX12 yX12_place yX12_place, .code yX23_place_ cX23_place_ 1 (some .int), .methodLink RL 42 yX23_place_, .instanceMethod yX23_place_, .selects RX23 yX23_place_ yX23_place_, .code yX12_fetch cX12_fetch 5 (some .long), .fieldLink RX12 144 "OwnedPlaces$Queue" "size" "I", .methodLink RX12 147 Lib.Math.min.name, .methodLink RL 43 yX12_fetch, .instanceMethod yX12_fetch, .selects RX12 yX12_fetch yX12_fetch] : List Cond), w ∈ lw_tbl := List.forall_mem_cons.mpr ⟨lm_550, List.forall_mem_cons.mpr ⟨lm_551, List.forall_mem_cons.mpr ⟨lm_552, List.forall_mem_cons.mpr ⟨lm_553, List.forall_mem_cons.mpr ⟨lm_554, List.forall_mem_cons.mpr ⟨lm_555, List.forall_mem_cons.mpr ⟨lm_556, List.forall_mem_cons.mpr ⟨lm_557, List.forall_mem_cons.mpr ⟨lm_558, List.forall_mem_cons.mpr ⟨lm_559, List.forall_mem_cons.mpr ⟨lm_560, List.forall_mem_cons.mpr ⟨lm_561, List.forall_mem_cons.mpr ⟨lm_562, List.forall_mem_cons.mpr ⟨lm_563, List.forall_mem_cons.mpr ⟨lm_564, List.forall_mem_cons.mpr ⟨lm_565, List.forall_mem_cons.mpr ⟨lm_566, List.forall_mem_cons.mpr ⟨lm_567, List.forall_mem_cons.mpr ⟨lm_568, List.forall_mem_cons.mpr ⟨lm_569, List.forall_mem_cons.mpr ⟨lm_570, List.forall_mem_cons.mpr ⟨lm_571, List.forall_mem_cons.mpr ⟨lm_572, List.forall_mem_cons.mpr ⟨lm_573, List.forall_mem_cons.mpr ⟨lm_574, fun _ h => absurd h List.not_mem_nil⟩⟩⟩⟩⟩⟩⟩⟩⟩⟩⟩⟩⟩⟩⟩⟩⟩⟩⟩⟩⟩⟩⟩⟩⟩
theorem lc_23 : ∀ w ∈ ([.code yX23_fetch cX23_fetch 5 (some .long), .fieldLink RX23 1061 "OwnedPlacesModel" "waitLong" "I", .methodLink RL 47 yX23_fetch, .instanceMethod yX23_fetch, .selects RX23 yX23_fetch yX23_fetch, .code yX12_count cX12_count 2 (some .int), .fieldLink RX12 156 "OwnedPlaces$Memory" "inUse" "I", .fieldLink RX12 159 "OwnedPlaces$Memory" "mostInUse" "I", .methodLink RL 48 yX12_count, .instanceMethod yX12_count, .selects RX12 yX12_count yX12_count, .code yX23_count cX23_count 2 (some .int), .methodLink RL 52 yX23_count, .instanceMethod yX23_count, .selects RX23 yX23_count yX23_count] : List Cond), w ∈ lw_tbl := List.forall_mem_cons.mpr ⟨lm_575, List.forall_mem_cons.mpr ⟨lm_576, List.forall_mem_cons.mpr ⟨lm_577, List.forall_mem_cons.mpr ⟨lm_578, List.forall_mem_cons.mpr ⟨lm_579, List.forall_mem_cons.mpr ⟨lm_580, List.forall_mem_cons.mpr ⟨lm_581, List.forall_mem_cons.mpr ⟨lm_582, List.forall_mem_cons.mpr ⟨lm_583, List.forall_mem_cons.mpr ⟨lm_584, List.forall_mem_cons.mpr ⟨lm_585, List.forall_mem_cons.mpr ⟨lm_586, List.forall_mem_cons.mpr ⟨lm_587, List.forall_mem_cons.mpr ⟨lm_588, List.forall_mem_cons.mpr ⟨lm_589, fun _ h => absurd h List.not_mem_nil⟩⟩⟩⟩⟩⟩⟩⟩⟩⟩⟩⟩⟩⟩⟩
set_option maxRecDepth 100000 in
theorem lin_wf : GoodIn lw_tbl wf_law := goodIn_sub (show ∀ w ∈ wf_law, w ∈ lw_tbl from List.forall_mem_append.mpr ⟨lc_0, List.forall_mem_append.mpr ⟨lc_1, List.forall_mem_append.mpr ⟨lc_2, List.forall_mem_append.mpr ⟨lc_3, List.forall_mem_append.mpr ⟨lc_4, List.forall_mem_append.mpr ⟨lc_5, List.forall_mem_append.mpr ⟨lc_6, List.forall_mem_append.mpr ⟨lc_7, List.forall_mem_append.mpr ⟨lc_8, List.forall_mem_append.mpr ⟨lc_9, List.forall_mem_append.mpr ⟨lc_10, List.forall_mem_append.mpr ⟨lc_11, List.forall_mem_append.mpr ⟨lc_12, List.forall_mem_append.mpr ⟨lc_13, List.forall_mem_append.mpr ⟨lc_14, List.forall_mem_append.mpr ⟨lc_15, List.forall_mem_append.mpr ⟨lc_16, List.forall_mem_append.mpr ⟨lc_17, List.forall_mem_append.mpr ⟨lc_18, List.forall_mem_append.mpr ⟨lc_19, List.forall_mem_append.mpr ⟨lc_20, List.forall_mem_append.mpr ⟨lc_21, List.forall_mem_append.mpr ⟨lc_22, lc_23⟩⟩⟩⟩⟩⟩⟩⟩⟩⟩⟩⟩⟩⟩⟩⟩⟩⟩⟩⟩⟩⟩⟩) wg_law
set_option maxRecDepth 100000 in
theorem lin_X0 : GoodIn lw_tbl wsX00 := goodIn_r wsX00 [538, 540, 542, 544, 546, 548, 550, 552, 554, 556, 558, 560, 562, 564, 566, 568, 570, 572] (by decide +kernel) gd_X0
set_option maxRecDepth 100000 in
theorem lin_X1 : GoodIn lw_tbl wsX10 := goodIn_r wsX10 [465, 467, 469, 471, 473, 475, 477, 479] (by decide +kernel) gd_X1
set_option maxRecDepth 100000 in
theorem lin_X2 : GoodIn lw_tbl wsX20 := goodIn_r wsX20 [405, 407, 409, 411, 413, 415, 417, 419, 421, 423, 425, 427, 429, 431, 433, 435, 437, 439, 441, 443, 445, 447] (by decide +kernel) gd_X2
set_option maxRecDepth 100000 in
theorem lin_X3 : GoodIn lw_tbl wsX30 := goodIn_r wsX30 [234, 236, 238, 240, 242, 244, 246] (by decide +kernel) gd_X3
set_option maxRecDepth 100000 in
theorem lin_X4 : GoodIn lw_tbl wsX40 := goodIn_r wsX40 [681, 683, 685, 687, 689, 691, 693, 695, 697, 699, 701, 703, 705, 707, 709, 711, 713, 715] (by decide +kernel) gd_X4
set_option maxRecDepth 100000 in
theorem lin_X5 : GoodIn lw_tbl wsX50 := goodIn_r wsX50 [811, 813, 815, 817, 819, 821, 823, 825, 827, 829, 831, 833, 835, 837, 839, 841, 843, 845, 847] (by decide +kernel) gd_X5
set_option maxRecDepth 100000 in
theorem lin_X6 : GoodIn lw_tbl wsX60 := goodIn_r wsX60 [759, 761, 763, 765, 767, 769, 771, 773, 775, 777, 779, 781] (by decide +kernel) gd_X6
set_option maxRecDepth 100000 in
theorem lin_X7 : GoodIn lw_tbl wsX70 := goodIn_r wsX70 [637, 639, 641, 643, 645, 647, 649, 651, 653] (by decide +kernel) gd_X7
set_option maxRecDepth 100000 in
theorem lin_X8 : GoodIn lw_tbl wsX80 := goodIn_r wsX80 [729, 731, 733, 735] (by decide +kernel) gd_X8
set_option maxRecDepth 100000 in
theorem lin_X9 : GoodIn lw_tbl wsX90 := goodIn_r wsX90 [179, 181, 183, 185, 187, 189, 191, 193, 195, 197, 199, 201, 203, 205, 207, 209, 211, 213] (by decide +kernel) gd_X9
set_option maxRecDepth 100000 in
theorem lin_X10 : GoodIn lw_tbl wsX100 := goodIn_r wsX100 [291, 293, 295, 297, 299, 301, 303, 305, 307, 309, 311, 313, 315, 317, 319, 321] (by decide +kernel) gd_X10
set_option maxRecDepth 100000 in
theorem lin_X11 : GoodIn lw_tbl wsX110 := goodIn_r wsX110 [594, 596, 598, 600, 602, 604, 606, 608, 610, 612, 614, 616, 618] (by decide +kernel) gd_X11
set_option maxRecDepth 100000 in
theorem lin_X12 : GoodIn lw_tbl wsX120 := goodIn_r wsX120 [864, 866, 868, 870, 872, 874, 876, 878, 880, 882, 884, 886, 888, 890] (by decide +kernel) gd_X12
set_option maxRecDepth 100000 in
theorem lin_X13 : GoodIn lw_tbl wsX130 := goodIn_r wsX130 [2566, 2568, 2570, 2572, 2574, 2576] (by decide +kernel) gd_X13
set_option maxRecDepth 100000 in
theorem lin_X14 : GoodIn lw_tbl wsX140 := goodIn_r wsX140 [2367, 2369, 2371, 2373] (by decide +kernel) gd_X14
set_option maxRecDepth 100000 in
theorem lin_X15 : GoodIn lw_tbl wsX150 := goodIn_r wsX150 [2469, 2471, 2473, 2475, 2477, 2479, 2481, 2483, 2485, 2487, 2489, 2491, 2493, 2495] (by decide +kernel) gd_X15
set_option maxRecDepth 100000 in
theorem lin_X16 : GoodIn lw_tbl wsX160 := goodIn_r wsX160 [2245, 2247, 2249, 2251, 2253, 2255, 2257, 2259, 2261, 2263, 2265, 2267, 2269, 2271, 2273, 2275, 2277, 2279, 2281, 2283, 2285, 2287] (by decide +kernel) gd_X16
set_option maxRecDepth 100000 in
theorem lin_X17 : GoodIn lw_tbl wsX170 := goodIn_r wsX170 [2601, 2603, 2605] (by decide +kernel) gd_X17
set_option maxRecDepth 100000 in
theorem lin_X18 : GoodIn lw_tbl wsX180 := goodIn_r wsX180 [2916, 2918, 2920, 2922] (by decide +kernel) gd_X18
set_option maxRecDepth 100000 in
theorem lin_X19 : GoodIn lw_tbl wsX190 := goodIn_r wsX190 [2400, 2402, 2404, 2406, 2408, 2410, 2412, 2414, 2416, 2418, 2420, 2422, 2424, 2426] (by decide +kernel) gd_X19
set_option maxRecDepth 100000 in
theorem lin_X20 : GoodIn lw_tbl wsX200 := goodIn_r wsX200 [2649, 2651, 2653, 2655] (by decide +kernel) gd_X20
set_option maxRecDepth 100000 in
theorem lin_X21 : GoodIn lw_tbl wsX210 := goodIn_r wsX210 [2723, 2725, 2727, 2729, 2731] (by decide +kernel) gd_X21
set_option maxRecDepth 100000 in
theorem lin_X22 : GoodIn lw_tbl wsX220 := goodIn_r wsX220 [2335, 2337, 2339, 2341, 2343] (by decide +kernel) gd_X22
set_option maxRecDepth 100000 in
theorem lin_X23 : GoodIn lw_tbl wsX230 := goodIn_r wsX230 [1954, 1956, 1958, 1960, 1962, 1964, 1966, 1968, 1970, 1972, 1974, 1976, 1978, 1980, 1982, 1984, 1986, 1988, 1990, 1992, 1994, 1996, 1998, 2000, 2002, 2004, 2006, 2008, 2010, 2012, 2014, 2016, 2018, 2020, 2022, 2024, 2026, 2028, 2030, 2032, 2034, 2036, 2038, 2040, 2042, 2044, 2046, 2048, 2050, 2052, 2054, 2056, 2058, 2060, 2062, 2064, 2066, 2068, 2070, 2072, 2074, 2076, 2078, 2080, 2082, 2084, 2086, 2088, 2090, 2092, 2094, 2096, 2098, 2100, 2102, 2104, 2106, 2108, 2110, 2112, 2114, 2116, 2118, 2120, 2122, 2124, 2126, 2128, 2130] (by decide +kernel) gd_X23
theorem law_in : GoodIn lw_tbl wp_law := goodIn_app lin_wf (goodIn_app lin_X0 (goodIn_app lin_X1 (goodIn_app lin_X2 (goodIn_app lin_X3 (goodIn_app lin_X4 (goodIn_app lin_X5 (goodIn_app lin_X6 (goodIn_app lin_X7 (goodIn_app lin_X8 (goodIn_app lin_X9 (goodIn_app lin_X10 (goodIn_app lin_X11 (goodIn_app lin_X12 (goodIn_app lin_X13 (goodIn_app lin_X14 (goodIn_app lin_X15 (goodIn_app lin_X16 (goodIn_app lin_X17 (goodIn_app lin_X18 (goodIn_app lin_X19 (goodIn_app lin_X20 (goodIn_app lin_X21 (goodIn_app lin_X22 (goodIn_app lin_X23 (goodIn_n)))))))))))))))))))))))))
