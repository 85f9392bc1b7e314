set_option maxRecDepth 100000 in
theorem lwm_0 : (.methodLink RL 21 yX12_feed : Cond) ∈ lw_tbl := tb_4 _ (List.mem_of_getElem? (i := 150) (by decide +kernel))
set_option maxRecDepth 100000 in
theorem lwm_1 : (.instanceMethod yX12_feed : Cond) ∈ lw_tbl := tb_4 _ (List.mem_of_getElem? (i := 151) (by decide +kernel))
set_option maxRecDepth 100000 in
theorem lwm_2 : (.selects RX12 yX12_feed yX12_feed : Cond) ∈ lw_tbl := tb_4 _ (List.mem_of_getElem? (i := 152) (by decide +kernel))
set_option maxRecDepth 100000 in
theorem lwm_3 : (.initialized RX12 : Cond) ∈ lw_tbl := tb_1 _ (List.mem_of_getElem? (i := 1) (by decide +kernel))
set_option maxRecDepth 100000 in
theorem lwm_4 : (.methodLink RL 28 yX12_input : Cond) ∈ lw_tbl := tb_4 _ (List.mem_of_getElem? (i := 158) (by decide +kernel))
set_option maxRecDepth 100000 in
theorem lwm_5 : (.instanceMethod yX12_input : Cond) ∈ lw_tbl := tb_4 _ (List.mem_of_getElem? (i := 159) (by decide +kernel))
set_option maxRecDepth 100000 in
theorem lwm_6 : (.selects RX12 yX12_input yX12_input : Cond) ∈ lw_tbl := tb_4 _ (List.mem_of_getElem? (i := 160) (by decide +kernel))
set_option maxRecDepth 100000 in
theorem lwm_7 : (.methodLink RL 38 yX12_place : Cond) ∈ lw_tbl := tb_8 _ (List.mem_of_getElem? (i := 124) (by decide +kernel))
set_option maxRecDepth 100000 in
theorem lwm_8 : (.instanceMethod yX12_place : Cond) ∈ lw_tbl := tb_8 _ (List.mem_of_getElem? (i := 125) (by decide +kernel))
set_option maxRecDepth 100000 in
theorem lwm_9 : (.selects RX12 yX12_place yX12_place : Cond) ∈ lw_tbl := tb_8 _ (List.mem_of_getElem? (i := 126) (by decide +kernel))
set_option maxRecDepth 100000 in
theorem lwm_10 : (.methodLink RL 43 yX12_fetch : Cond) ∈ lw_tbl := tb_8 _ (List.mem_of_getElem? (i := 128) (by decide +kernel))
set_option maxRecDepth 100000 in
theorem lwm_11 : (.instanceMethod yX12_fetch : Cond) ∈ lw_tbl := tb_8 _ (List.mem_of_getElem? (i := 129) (by decide +kernel))
set_option maxRecDepth 100000 in
theorem lwm_12 : (.selects RX12 yX12_fetch yX12_fetch : Cond) ∈ lw_tbl := tb_8 _ (List.mem_of_getElem? (i := 130) (by decide +kernel))
set_option maxRecDepth 100000 in
theorem lwm_13 : (.methodLink RL 48 yX12_count : Cond) ∈ lw_tbl := tb_8 _ (List.mem_of_getElem? (i := 134) (by decide +kernel))
set_option maxRecDepth 100000 in
theorem lwm_14 : (.instanceMethod yX12_count : Cond) ∈ lw_tbl := tb_8 _ (List.mem_of_getElem? (i := 135) (by decide +kernel))
set_option maxRecDepth 100000 in
theorem lwm_15 : (.selects RX12 yX12_count yX12_count : Cond) ∈ lw_tbl := tb_8 _ (List.mem_of_getElem? (i := 136) (by decide +kernel))
set_option maxRecDepth 100000 in
theorem lwm_16 : (.methodLink RL 33 yX12_run : Cond) ∈ lw_tbl := tb_4 _ (List.mem_of_getElem? (i := 166) (by decide +kernel))
set_option maxRecDepth 100000 in
theorem lwm_17 : (.instanceMethod yX12_run : Cond) ∈ lw_tbl := tb_4 _ (List.mem_of_getElem? (i := 167) (by decide +kernel))
set_option maxRecDepth 100000 in
theorem lwm_18 : (.selects RX12 yX12_run yX12_run : Cond) ∈ lw_tbl := tb_4 _ (List.mem_of_getElem? (i := 168) (by decide +kernel))
set_option maxRecDepth 100000 in
theorem lwm_19 : (.methodLink RL 25 yX23_feed : Cond) ∈ lw_tbl := tb_9 _ (List.mem_of_getElem? (i := 190) (by decide +kernel))
set_option maxRecDepth 100000 in
theorem lwm_20 : (.instanceMethod yX23_feed : Cond) ∈ lw_tbl := tb_9 _ (List.mem_of_getElem? (i := 191) (by decide +kernel))
set_option maxRecDepth 100000 in
theorem lwm_21 : (.selects RX23 yX23_feed yX23_feed : Cond) ∈ lw_tbl := tb_9 _ (List.mem_of_getElem? (i := 192) (by decide +kernel))
set_option maxRecDepth 100000 in
theorem lwm_22 : (.initialized RX23 : Cond) ∈ lw_tbl := tb_1 _ (List.mem_of_getElem? (i := 20) (by decide +kernel))
set_option maxRecDepth 100000 in
theorem lwm_23 : (.methodLink RL 32 yX23_input : Cond) ∈ lw_tbl := tb_9 _ (List.mem_of_getElem? (i := 198) (by decide +kernel))
set_option maxRecDepth 100000 in
theorem lwm_24 : (.instanceMethod yX23_input : Cond) ∈ lw_tbl := tb_9 _ (List.mem_of_getElem? (i := 199) (by decide +kernel))
set_option maxRecDepth 100000 in
theorem lwm_25 : (.selects RX23 yX23_input yX23_input : Cond) ∈ lw_tbl := tb_9 _ (List.mem_of_getElem? (i := 200) (by decide +kernel))
set_option maxRecDepth 100000 in
theorem lwm_26 : (.methodLink RL 42 yX23_place_ : Cond) ∈ lw_tbl := tb_14 _ (List.mem_of_getElem? (i := 129) (by decide +kernel))
set_option maxRecDepth 100000 in
theorem lwm_27 : (.instanceMethod yX23_place_ : Cond) ∈ lw_tbl := tb_14 _ (List.mem_of_getElem? (i := 130) (by decide +kernel))
set_option maxRecDepth 100000 in
theorem lwm_28 : (.selects RX23 yX23_place_ yX23_place_ : Cond) ∈ lw_tbl := tb_14 _ (List.mem_of_getElem? (i := 131) (by decide +kernel))
set_option maxRecDepth 100000 in
theorem lwm_29 : (.methodLink RL 47 yX23_fetch : Cond) ∈ lw_tbl := tb_14 _ (List.mem_of_getElem? (i := 133) (by decide +kernel))
set_option maxRecDepth 100000 in
theorem lwm_30 : (.instanceMethod yX23_fetch : Cond) ∈ lw_tbl := tb_14 _ (List.mem_of_getElem? (i := 134) (by decide +kernel))
set_option maxRecDepth 100000 in
theorem lwm_31 : (.selects RX23 yX23_fetch yX23_fetch : Cond) ∈ lw_tbl := tb_14 _ (List.mem_of_getElem? (i := 135) (by decide +kernel))
set_option maxRecDepth 100000 in
theorem lwm_32 : (.methodLink RL 52 yX23_count : Cond) ∈ lw_tbl := tb_14 _ (List.mem_of_getElem? (i := 137) (by decide +kernel))
set_option maxRecDepth 100000 in
theorem lwm_33 : (.instanceMethod yX23_count : Cond) ∈ lw_tbl := tb_14 _ (List.mem_of_getElem? (i := 138) (by decide +kernel))
set_option maxRecDepth 100000 in
theorem lwm_34 : (.selects RX23 yX23_count yX23_count : Cond) ∈ lw_tbl := tb_14 _ (List.mem_of_getElem? (i := 139) (by decide +kernel))
set_option maxRecDepth 100000 in
theorem lwm_35 : (.code yX23_scan cX23_scan 4 none : Cond) ∈ lw_tbl := tb_9 _ (List.mem_of_getElem? (i := 209) (by decide +kernel))
set_option maxRecDepth 100000 in
theorem lwm_36 : (.fieldLink RX23 28 "OwnedPlacesModel" "tokens" "I" : Cond) ∈ lw_tbl := tb_8 _ (List.mem_of_getElem? (i := 172) (by decide +kernel))
set_option maxRecDepth 100000 in
theorem lwm_37 : (.code yX23_behindBlanks cX23_behindBlanks 4 (some .int) : Cond) ∈ lw_tbl := tb_9 _ (List.mem_of_getElem? (i := 213) (by decide +kernel))
set_option maxRecDepth 100000 in
theorem lwm_38 : (.code yX23_at cX23_at 2 (some .int) : Cond) ∈ lw_tbl := tb_9 _ (List.mem_of_getElem? (i := 217) (by decide +kernel))
set_option maxRecDepth 100000 in
theorem lwm_39 : (.fieldLink RX23 1 "OwnedPlacesModel" "size" "I" : Cond) ∈ lw_tbl := tb_8 _ (List.mem_of_getElem? (i := 165) (by decide +kernel))
set_option maxRecDepth 100000 in
theorem lwm_40 : (.fieldLink RX23 7 "OwnedPlacesModel" "text" "[I" : Cond) ∈ lw_tbl := tb_8 _ (List.mem_of_getElem? (i := 163) (by decide +kernel))
set_option maxRecDepth 100000 in
theorem lwm_41 : (.methodLink RX23 11 yX23_at : Cond) ∈ lw_tbl := tb_9 _ (List.mem_of_getElem? (i := 214) (by decide +kernel))
set_option maxRecDepth 100000 in
theorem lwm_42 : (.instanceMethod yX23_at : Cond) ∈ lw_tbl := tb_9 _ (List.mem_of_getElem? (i := 216) (by decide +kernel))
set_option maxRecDepth 100000 in
theorem lwm_43 : (.selects RX23 yX23_at yX23_at : Cond) ∈ lw_tbl := List.mem_append_left _ (List.mem_of_getElem? (i := 151) (by decide +kernel))
set_option maxRecDepth 100000 in
theorem lwm_44 : (.methodLink RX23 68 yX23_behindBlanks : Cond) ∈ lw_tbl := tb_9 _ (List.mem_of_getElem? (i := 210) (by decide +kernel))
set_option maxRecDepth 100000 in
theorem lwm_45 : (.instanceMethod yX23_behindBlanks : Cond) ∈ lw_tbl := tb_9 _ (List.mem_of_getElem? (i := 212) (by decide +kernel))
set_option maxRecDepth 100000 in
theorem lwm_46 : (.selects RX23 yX23_behindBlanks yX23_behindBlanks : Cond) ∈ lw_tbl := List.mem_append_left _ (List.mem_of_getElem? (i := 150) (by decide +kernel))
set_option maxRecDepth 100000 in
theorem lwm_47 : (.code yX23_addToken cX23_addToken 6 none : Cond) ∈ lw_tbl := tb_10 _ (List.mem_of_getElem? (i := 1) (by decide +kernel))
set_option maxRecDepth 100000 in
theorem lwm_48 : (.fieldLink RX23 25 "OwnedPlacesModel" "tokenKind" "[I" : Cond) ∈ lw_tbl := tb_8 _ (List.mem_of_getElem? (i := 168) (by decide +kernel))
set_option maxRecDepth 100000 in
theorem lwm_49 : (.fieldLink RX23 31 "OwnedPlacesModel" "tokenAt" "[I" : Cond) ∈ lw_tbl := tb_8 _ (List.mem_of_getElem? (i := 169) (by decide +kernel))
set_option maxRecDepth 100000 in
theorem lwm_50 : (.fieldLink RX23 34 "OwnedPlacesModel" "tokenEnd" "[I" : Cond) ∈ lw_tbl := tb_8 _ (List.mem_of_getElem? (i := 170) (by decide +kernel))
set_option maxRecDepth 100000 in
theorem lwm_51 : (.fieldLink RX23 37 "OwnedPlacesModel" "tokenNumber" "[J" : Cond) ∈ lw_tbl := tb_8 _ (List.mem_of_getElem? (i := 171) (by decide +kernel))
set_option maxRecDepth 100000 in
theorem lwm_52 : (.methodLink RX23 51 yX23_addToken : Cond) ∈ lw_tbl := tb_9 _ (List.mem_of_getElem? (i := 238) (by decide +kernel))
set_option maxRecDepth 100000 in
theorem lwm_53 : (.instanceMethod yX23_addToken : Cond) ∈ lw_tbl := tb_10 _ (List.mem_of_getElem? (i := 0) (by decide +kernel))
set_option maxRecDepth 100000 in
theorem lwm_54 : (.selects RX23 yX23_addToken yX23_addToken : Cond) ∈ lw_tbl := List.mem_append_left _ (List.mem_of_getElem? (i := 154) (by decide +kernel))
set_option maxRecDepth 100000 in
theorem lwm_55 : (.code yX23_takeLife cX23_takeLife 4 (some .int) : Cond) ∈ lw_tbl := tb_9 _ (List.mem_of_getElem? (i := 221) (by decide +kernel))
set_option maxRecDepth 100000 in
theorem lwm_56 : (.code yX23_isLetter cX23_isLetter 1 (some .boolean) : Cond) ∈ lw_tbl := tb_9 _ (List.mem_of_getElem? (i := 227) (by decide +kernel))
set_option maxRecDepth 100000 in
theorem lwm_57 : (.methodLink RX23 48 yX23_isLetter : Cond) ∈ lw_tbl := tb_9 _ (List.mem_of_getElem? (i := 225) (by decide +kernel))
set_option maxRecDepth 100000 in
theorem lwm_58 : (.static yX23_isLetter : Cond) ∈ lw_tbl := tb_9 _ (List.mem_of_getElem? (i := 226) (by decide +kernel))
set_option maxRecDepth 100000 in
theorem lwm_59 : (.code yX23_wordOf cX23_wordOf 7 (some .int) : Cond) ∈ lw_tbl := tb_9 _ (List.mem_of_getElem? (i := 231) (by decide +kernel))
set_option maxRecDepth 100000 in
theorem lwm_60 : (.fieldLink RX23 15 "OwnedPlacesModel" "WORDS" "[J" : Cond) ∈ lw_tbl := tb_9 _ (List.mem_of_getElem? (i := 232) (by decide +kernel))
set_option maxRecDepth 100000 in
theorem lwm_61 : (.code yX23_wordLength cX23_wordLength 3 (some .int) : Cond) ∈ lw_tbl := tb_9 _ (List.mem_of_getElem? (i := 236) (by decide +kernel))
set_option maxRecDepth 100000 in
theorem lwm_62 : (.methodLink RX23 19 yX23_wordLength : Cond) ∈ lw_tbl := tb_9 _ (List.mem_of_getElem? (i := 234) (by decide +kernel))
set_option maxRecDepth 100000 in
theorem lwm_63 : (.static yX23_wordLength : Cond) ∈ lw_tbl := tb_9 _ (List.mem_of_getElem? (i := 235) (by decide +kernel))
set_option maxRecDepth 100000 in
theorem lwm_64 : (.constantLong RX23 23 255 : Cond) ∈ lw_tbl := tb_9 _ (List.mem_of_getElem? (i := 237) (by decide +kernel))
set_option maxRecDepth 100000 in
theorem lwm_65 : (.methodLink RX23 64 yX23_wordOf : Cond) ∈ lw_tbl := tb_9 _ (List.mem_of_getElem? (i := 228) (by decide +kernel))
set_option maxRecDepth 100000 in
theorem lwm_66 : (.instanceMethod yX23_wordOf : Cond) ∈ lw_tbl := tb_9 _ (List.mem_of_getElem? (i := 230) (by decide +kernel))
set_option maxRecDepth 100000 in
theorem lwm_67 : (.selects RX23 yX23_wordOf yX23_wordOf : Cond) ∈ lw_tbl := List.mem_append_left _ (List.mem_of_getElem? (i := 153) (by decide +kernel))
set_option maxRecDepth 100000 in
theorem lwm_68 : (.code yX23_isDigit cX23_isDigit 1 (some .boolean) : Cond) ∈ lw_tbl := tb_9 _ (List.mem_of_getElem? (i := 224) (by decide +kernel))
set_option maxRecDepth 100000 in
theorem lwm_69 : (.methodLink RX23 40 yX23_isDigit : Cond) ∈ lw_tbl := tb_9 _ (List.mem_of_getElem? (i := 222) (by decide +kernel))
set_option maxRecDepth 100000 in
theorem lwm_70 : (.static yX23_isDigit : Cond) ∈ lw_tbl := tb_9 _ (List.mem_of_getElem? (i := 223) (by decide +kernel))
set_option maxRecDepth 100000 in
theorem lwm_71 : (.methodLink RX23 71 yX23_takeLife : Cond) ∈ lw_tbl := tb_9 _ (List.mem_of_getElem? (i := 218) (by decide +kernel))
set_option maxRecDepth 100000 in
theorem lwm_72 : (.instanceMethod yX23_takeLife : Cond) ∈ lw_tbl := tb_9 _ (List.mem_of_getElem? (i := 220) (by decide +kernel))
set_option maxRecDepth 100000 in
theorem lwm_73 : (.selects RX23 yX23_takeLife yX23_takeLife : Cond) ∈ lw_tbl := List.mem_append_left _ (List.mem_of_getElem? (i := 152) (by decide +kernel))
set_option maxRecDepth 100000 in
theorem lwm_74 : (.code yX23_takeSign cX23_takeSign 4 (some .int) : Cond) ∈ lw_tbl := tb_10 _ (List.mem_of_getElem? (i := 11) (by decide +kernel))
set_option maxRecDepth 100000 in
theorem lwm_75 : (.fieldLink RX23 55 "OwnedPlacesModel" "SIGN_KIND" "[I" : Cond) ∈ lw_tbl := tb_10 _ (List.mem_of_getElem? (i := 12) (by decide +kernel))
set_option maxRecDepth 100000 in
theorem lwm_76 : (.fieldLink RX23 58 "OwnedPlacesModel" "SIGN_SECOND" "[I" : Cond) ∈ lw_tbl := tb_10 _ (List.mem_of_getElem? (i := 14) (by decide +kernel))
set_option maxRecDepth 100000 in
theorem lwm_77 : (.fieldLink RX23 61 "OwnedPlacesModel" "SIGN_FIRST" "[I" : Cond) ∈ lw_tbl := tb_10 _ (List.mem_of_getElem? (i := 16) (by decide +kernel))
set_option maxRecDepth 100000 in
theorem lwm_78 : (.methodLink RX23 77 yX23_takeSign : Cond) ∈ lw_tbl := tb_10 _ (List.mem_of_getElem? (i := 8) (by decide +kernel))
set_option maxRecDepth 100000 in
theorem lwm_79 : (.instanceMethod yX23_takeSign : Cond) ∈ lw_tbl := tb_10 _ (List.mem_of_getElem? (i := 10) (by decide +kernel))
set_option maxRecDepth 100000 in
theorem lwm_80 : (.selects RX23 yX23_takeSign yX23_takeSign : Cond) ∈ lw_tbl := List.mem_append_left _ (List.mem_of_getElem? (i := 156) (by decide +kernel))
set_option maxRecDepth 100000 in
theorem lwm_81 : (.code yX23_takeNumber cX23_takeNumber 7 (some .int) : Cond) ∈ lw_tbl := tb_10 _ (List.mem_of_getElem? (i := 5) (by decide +kernel))
set_option maxRecDepth 100000 in
theorem lwm_82 : (.constantLong RX23 44 922337203685477580 : Cond) ∈ lw_tbl := tb_10 _ (List.mem_of_getElem? (i := 6) (by decide +kernel))
set_option maxRecDepth 100000 in
theorem lwm_83 : (.constantLong RX23 46 10 : Cond) ∈ lw_tbl := tb_10 _ (List.mem_of_getElem? (i := 7) (by decide +kernel))
set_option maxRecDepth 100000 in
theorem lwm_84 : (.methodLink RX23 74 yX23_takeNumber : Cond) ∈ lw_tbl := tb_10 _ (List.mem_of_getElem? (i := 2) (by decide +kernel))
set_option maxRecDepth 100000 in
theorem lwm_85 : (.instanceMethod yX23_takeNumber : Cond) ∈ lw_tbl := tb_10 _ (List.mem_of_getElem? (i := 4) (by decide +kernel))
set_option maxRecDepth 100000 in
theorem lwm_86 : (.selects RX23 yX23_takeNumber yX23_takeNumber : Cond) ∈ lw_tbl := List.mem_append_left _ (List.mem_of_getElem? (i := 155) (by decide +kernel))
set_option maxRecDepth 100000 in
theorem lwm_87 : (.code yX23_run cX23_run 3 (some .int) : Cond) ∈ lw_tbl := tb_9 _ (List.mem_of_getElem? (i := 205) (by decide +kernel))
set_option maxRecDepth 100000 in
theorem lwm_88 : (.methodLink RX23 1173 yX23_scan : Cond) ∈ lw_tbl := tb_9 _ (List.mem_of_getElem? (i := 206) (by decide +kernel))
set_option maxRecDepth 100000 in
theorem lwm_89 : (.instanceMethod yX23_scan : Cond) ∈ lw_tbl := tb_9 _ (List.mem_of_getElem? (i := 208) (by decide +kernel))
set_option maxRecDepth 100000 in
theorem lwm_90 : (.selects RX23 yX23_scan yX23_scan : Cond) ∈ lw_tbl := List.mem_append_left _ (List.mem_of_getElem? (i := 149) (by decide +kernel))
set_option maxRecDepth 100000 in
theorem lwm_91 : (.methodLink RL 37 yX23_run : Cond) ∈ lw_tbl := tb_9 _ (List.mem_of_getElem? (i := 202) (by decide +kernel))
set_option maxRecDepth 100000 in
theorem lwm_92 : (.instanceMethod yX23_run : Cond) ∈ lw_tbl := tb_9 _ (List.mem_of_getElem? (i := 203) (by decide +kernel))
set_option maxRecDepth 100000 in
theorem lwm_93 : (.selects RX23 yX23_run yX23_run : Cond) ∈ lw_tbl := tb_9 _ (List.mem_of_getElem? (i := 204) (by decide +kernel))
set_option maxRecDepth 100000 in
theorem lwm_94 : (.constantLong RL 26 4294967295 : Cond) ∈ lw_tbl := tb_14 _ (List.mem_of_getElem? (i := 141) (by decide +kernel))
set_option maxRecDepth 100000 in
theorem lwm_95 : (.instantiable RX0 18 : Cond) ∈ lw_tbl := tb_2 _ (List.mem_of_getElem? (i := 220) (by decide +kernel))
set_option maxRecDepth 100000 in
theorem lwm_96 : (.instantiable RX1 8 : Cond) ∈ lw_tbl := tb_2 _ (List.mem_of_getElem? (i := 63) (by decide +kernel))
set_option maxRecDepth 100000 in
theorem lwm_97 : (.instantiable RX2 22 : Cond) ∈ lw_tbl := tb_2 _ (List.mem_of_getElem? (i := 70) (by decide +kernel))
set_option maxRecDepth 100000 in
theorem lwm_98 : (.instantiable RX3 7 : Cond) ∈ lw_tbl := tb_1 _ (List.mem_of_getElem? (i := 197) (by decide +kernel))
set_option maxRecDepth 100000 in
theorem lwm_99 : (.instantiable RX4 18 : Cond) ∈ lw_tbl := tb_3 _ (List.mem_of_getElem? (i := 154) (by decide +kernel))
set_option maxRecDepth 100000 in
theorem lwm_100 : (.instantiable RX5 19 : Cond) ∈ lw_tbl := tb_4 _ (List.mem_of_getElem? (i := 42) (by decide +kernel))
set_option maxRecDepth 100000 in
theorem lwm_101 : (.instantiable RX6 12 : Cond) ∈ lw_tbl := tb_3 _ (List.mem_of_getElem? (i := 236) (by decide +kernel))
set_option maxRecDepth 100000 in
theorem lwm_102 : (.instantiable RX7 9 : Cond) ∈ lw_tbl := tb_3 _ (List.mem_of_getElem? (i := 119) (by decide +kernel))
set_option maxRecDepth 100000 in
theorem lwm_103 : (.instantiable RX8 4 : Cond) ∈ lw_tbl := tb_3 _ (List.mem_of_getElem? (i := 216) (by decide +kernel))
set_option maxRecDepth 100000 in
theorem lwm_104 : (.instantiable RX9 18 : Cond) ∈ lw_tbl := tb_1 _ (List.mem_of_getElem? (i := 41) (by decide +kernel))
set_option maxRecDepth 100000 in
theorem lwm_105 : (.instantiable RX10 16 : Cond) ∈ lw_tbl := tb_1 _ (List.mem_of_getElem? (i := 227) (by decide +kernel))
set_option maxRecDepth 100000 in
theorem lwm_106 : (.instantiable RX11 13 : Cond) ∈ lw_tbl := tb_3 _ (List.mem_of_getElem? (i := 73) (by decide +kernel))
set_option maxRecDepth 100000 in
theorem lwm_107 : (.instantiable RX12 14 : Cond) ∈ lw_tbl := tb_1 _ (List.mem_of_getElem? (i := 33) (by decide +kernel))
set_option maxRecDepth 100000 in
theorem lwm_108 : (.instantiable RX13 6 : Cond) ∈ lw_tbl := tb_11 _ (List.mem_of_getElem? (i := 129) (by decide +kernel))
set_option maxRecDepth 100000 in
theorem lwm_109 : (.instantiable RX14 4 : Cond) ∈ lw_tbl := tb_10 _ (List.mem_of_getElem? (i := 172) (by decide +kernel))
set_option maxRecDepth 100000 in
theorem lwm_110 : (.instantiable RX15 14 : Cond) ∈ lw_tbl := tb_11 _ (List.mem_of_getElem? (i := 27) (by decide +kernel))
set_option maxRecDepth 100000 in
theorem lwm_111 : (.instantiable RX16 22 : Cond) ∈ lw_tbl := tb_10 _ (List.mem_of_getElem? (i := 34) (by decide +kernel))
set_option maxRecDepth 100000 in
theorem lwm_112 : (.instantiable RX17 3 : Cond) ∈ lw_tbl := tb_11 _ (List.mem_of_getElem? (i := 170) (by decide +kernel))
set_option maxRecDepth 100000 in
theorem lwm_113 : (.instantiable RX18 4 : Cond) ∈ lw_tbl := tb_13 _ (List.mem_of_getElem? (i := 0) (by decide +kernel))
set_option maxRecDepth 100000 in
theorem lwm_114 : (.instantiable RX19 14 : Cond) ∈ lw_tbl := tb_10 _ (List.mem_of_getElem? (i := 198) (by decide +kernel))
set_option maxRecDepth 100000 in
theorem lwm_115 : (.instantiable RX20 4 : Cond) ∈ lw_tbl := tb_11 _ (List.mem_of_getElem? (i := 217) (by decide +kernel))
set_option maxRecDepth 100000 in
theorem lwm_116 : (.instantiable RX21 5 : Cond) ∈ lw_tbl := tb_12 _ (List.mem_of_getElem? (i := 50) (by decide +kernel))
set_option maxRecDepth 100000 in
theorem lwm_117 : (.instantiable RX22 5 : Cond) ∈ lw_tbl := tb_10 _ (List.mem_of_getElem? (i := 141) (by decide +kernel))
set_option maxRecDepth 100000 in
theorem lwm_118 : (.instantiable RX23 89 : Cond) ∈ lw_tbl := tb_8 _ (List.mem_of_getElem? (i := 142) (by decide +kernel))
set_option maxRecDepth 100000 in
theorem lwm_119 : (.laysStatic "java/lang/String" "COMPACT_STRINGS" "Z" : Cond) ∈ lw_tbl := tb_1 _ (List.mem_of_getElem? (i := 59) (by decide +kernel))
set_option maxRecDepth 100000 in
theorem lwm_120 : (.initialized RJ0 : Cond) ∈ lw_tbl := tb_1 _ (List.mem_of_getElem? (i := 4) (by decide +kernel))
set_option maxRecDepth 100000 in
theorem lwm_121 : (.stringRef RX9 57 "struct enum fn let mut if else while match return print read true false box new token int bool main " : Cond) ∈ lw_tbl := tb_1 _ (List.mem_of_getElem? (i := 49) (by decide +kernel))
set_option maxRecDepth 100000 in
theorem lwm_122 : (.stringRef RX9 150 "==!=<=>=&&||::->=>" : Cond) ∈ lw_tbl := tb_4 _ (List.mem_of_getElem? (i := 229) (by decide +kernel))
set_option maxRecDepth 100000 in
theorem lwm_123 : (.stringRef RX9 152 "+-*/%<>!=&.,:;(){}" : Cond) ∈ lw_tbl := tb_4 _ (List.mem_of_getElem? (i := 230) (by decide +kernel))
set_option maxRecDepth 100000 in
theorem lwm_124 : (.stringRef RX5 274 "true" : Cond) ∈ lw_tbl := tb_8 _ (List.mem_of_getElem? (i := 114) (by decide +kernel))
set_option maxRecDepth 100000 in
theorem lwm_125 : (.stringRef RX5 276 "false" : Cond) ∈ lw_tbl := tb_8 _ (List.mem_of_getElem? (i := 115) (by decide +kernel))
set_option maxRecDepth 100000 in
theorem lwm_126 : (.laysStatic "jdk/internal/util/Preconditions" "SIOOBE_FORMATTER" "Ljava/util/function/BiFunction;" : Cond) ∈ lw_tbl := tb_1 _ (List.mem_of_getElem? (i := 75) (by decide +kernel))
set_option maxRecDepth 100000 in
theorem lwm_127 : (.initialized "jdk/internal/util/Preconditions" : Cond) ∈ lw_tbl := tb_1 _ (List.mem_of_getElem? (i := 6) (by decide +kernel))
set_option maxRecDepth 100000 in
theorem lwm_128 : (.laysStatic "OwnedPlacesModel" "WORDS" "[J" : Cond) ∈ lw_tbl := tb_9 _ (List.mem_of_getElem? (i := 233) (by decide +kernel))
set_option maxRecDepth 100000 in
theorem lwm_129 : (.laysStatic "OwnedPlacesModel" "SIGN_FIRST" "[I" : Cond) ∈ lw_tbl := tb_10 _ (List.mem_of_getElem? (i := 17) (by decide +kernel))
set_option maxRecDepth 100000 in
theorem lwm_130 : (.laysStatic "OwnedPlacesModel" "SIGN_SECOND" "[I" : Cond) ∈ lw_tbl := tb_10 _ (List.mem_of_getElem? (i := 15) (by decide +kernel))
set_option maxRecDepth 100000 in
theorem lwm_131 : (.laysStatic "OwnedPlacesModel" "SIGN_KIND" "[I" : Cond) ∈ lw_tbl := tb_10 _ (List.mem_of_getElem? (i := 13) (by decide +kernel))
set_option maxRecDepth 100000 in
theorem lwm_132 : (.castable "[I" "java/lang/Cloneable" : Cond) ∈ lw_tbl := tb_1 _ (List.mem_of_getElem? (i := 118) (by decide +kernel))
set_option maxRecDepth 100000 in
theorem lwm_133 : (.methodLinkNest RX12 27 yX10_init "OwnedPlaces" : Cond) ∈ lw_tbl := tb_1 _ (List.mem_of_getElem? (i := 228) (by decide +kernel))
set_option maxRecDepth 100000 in
theorem lwm_134 : (.methodLinkNest RX12 43 yX0_init "OwnedPlaces" : Cond) ∈ lw_tbl := tb_2 _ (List.mem_of_getElem? (i := 221) (by decide +kernel))
set_option maxRecDepth 100000 in
theorem lwm_135 : (.methodLinkNest RX1 29 yX2_init "OwnedPlaces" : Cond) ∈ lw_tbl := tb_2 _ (List.mem_of_getElem? (i := 71) (by decide +kernel))
set_option maxRecDepth 100000 in
theorem lwm_136 : (.methodLinkNest RX3 139 yX12_levelOf "OwnedPlaces" : Cond) ∈ lw_tbl := tb_5 _ (List.mem_of_getElem? (i := 114) (by decide +kernel))
set_option maxRecDepth 100000 in
theorem lwm_137 : (.methodLinkNest RX11 305 yX12_levelOf "OwnedPlaces" : Cond) ∈ lw_tbl := tb_6 _ (List.mem_of_getElem? (i := 214) (by decide +kernel))
set_option maxRecDepth 100000 in
theorem lwm_138 : (.methodLinkNest RX5 191 yX12_levelOf "OwnedPlaces" : Cond) ∈ lw_tbl := tb_8 _ (List.mem_of_getElem? (i := 31) (by decide +kernel))
set_option maxRecDepth 100000 in
theorem lwm_139 : (.methodLinkNest RX23 109 yX22_init "OwnedPlacesModel" : Cond) ∈ lw_tbl := tb_10 _ (List.mem_of_getElem? (i := 142) (by decide +kernel))
set_option maxRecDepth 100000 in
theorem lwm_140 : (.methodLinkNest RX23 158 yX17_init "OwnedPlacesModel" : Cond) ∈ lw_tbl := tb_11 _ (List.mem_of_getElem? (i := 171) (by decide +kernel))
set_option maxRecDepth 100000 in
theorem lwm_141 : (.methodLinkNest RX23 224 yX16_init "OwnedPlacesModel" : Cond) ∈ lw_tbl := tb_10 _ (List.mem_of_getElem? (i := 35) (by decide +kernel))
set_option maxRecDepth 100000 in
theorem lwm_142 : (.methodLinkNest RX23 238 yX14_init "OwnedPlacesModel" : Cond) ∈ lw_tbl := tb_10 _ (List.mem_of_getElem? (i := 173) (by decide +kernel))
set_option maxRecDepth 100000 in
theorem lwm_143 : (.methodLinkNest RX23 254 yX19_init "OwnedPlacesModel" : Cond) ∈ lw_tbl := tb_10 _ (List.mem_of_getElem? (i := 199) (by decide +kernel))
set_option maxRecDepth 100000 in
theorem lwm_144 : (.methodLinkNest RX23 325 yX13_init "OwnedPlacesModel" : Cond) ∈ lw_tbl := tb_11 _ (List.mem_of_getElem? (i := 130) (by decide +kernel))
set_option maxRecDepth 100000 in
theorem lwm_145 : (.methodLinkNest RX23 349 yX15_init "OwnedPlacesModel" : Cond) ∈ lw_tbl := tb_11 _ (List.mem_of_getElem? (i := 28) (by decide +kernel))
set_option maxRecDepth 100000 in
theorem lwm_146 : (.methodLinkNest RX23 393 yX20_init "OwnedPlacesModel" : Cond) ∈ lw_tbl := tb_11 _ (List.mem_of_getElem? (i := 218) (by decide +kernel))
set_option maxRecDepth 100000 in
theorem lwm_147 : (.methodLinkNest RX23 465 yX21_init "OwnedPlacesModel" : Cond) ∈ lw_tbl := tb_12 _ (List.mem_of_getElem? (i := 51) (by decide +kernel))
set_option maxRecDepth 100000 in
theorem lwm_148 : (.arrayOver (.object RX13) : Cond) ∈ lw_tbl := tb_8 _ (List.mem_of_getElem? (i := 158) (by decide +kernel))
set_option maxRecDepth 100000 in
theorem lwm_149 : (.arrayOver (.object RX14) : Cond) ∈ lw_tbl := tb_11 _ (List.mem_of_getElem? (i := 114) (by decide +kernel))
set_option maxRecDepth 100000 in
theorem lwm_150 : (.arrayOver (.object RX15) : Cond) ∈ lw_tbl := tb_11 _ (List.mem_of_getElem? (i := 94) (by decide +kernel))
set_option maxRecDepth 100000 in
theorem lwm_151 : (.arrayOver (.object RX16) : Cond) ∈ lw_tbl := tb_8 _ (List.mem_of_getElem? (i := 148) (by decide +kernel))
set_option maxRecDepth 100000 in
theorem lwm_152 : (.arrayOver (.object RX17) : Cond) ∈ lw_tbl := tb_11 _ (List.mem_of_getElem? (i := 165) (by decide +kernel))
set_option maxRecDepth 100000 in
theorem lwm_153 : (.arrayOver (.object RX18) : Cond) ∈ lw_tbl := tb_8 _ (List.mem_of_getElem? (i := 156) (by decide +kernel))
set_option maxRecDepth 100000 in
theorem lwm_154 : (.arrayOver (.object RX19) : Cond) ∈ lw_tbl := tb_10 _ (List.mem_of_getElem? (i := 178) (by decide +kernel))
set_option maxRecDepth 100000 in
theorem lwm_155 : (.arrayOver (.object RX2) : Cond) ∈ lw_tbl := tb_2 _ (List.mem_of_getElem? (i := 69) (by decide +kernel))
set_option maxRecDepth 100000 in
theorem lwm_156 : (.arrayOver (.object RX20) : Cond) ∈ lw_tbl := tb_8 _ (List.mem_of_getElem? (i := 150) (by decide +kernel))
set_option maxRecDepth 100000 in
theorem lwm_157 : (.arrayOver (.object RX21) : Cond) ∈ lw_tbl := tb_8 _ (List.mem_of_getElem? (i := 152) (by decide +kernel))
set_option maxRecDepth 100000 in
theorem lwm_158 : (.arrayOver (.object RX22) : Cond) ∈ lw_tbl := tb_10 _ (List.mem_of_getElem? (i := 112) (by decide +kernel))
set_option maxRecDepth 100000 in
theorem lwm_159 : (.arrayOver (.array .int) : Cond) ∈ lw_tbl := tb_8 _ (List.mem_of_getElem? (i := 154) (by decide +kernel))
set_option maxRecDepth 100000 in
theorem lwm_160 : (.classLink RL 7 RX12 : Cond) ∈ lw_tbl := tb_1 _ (List.mem_of_getElem? (i := 32) (by decide +kernel))
set_option maxRecDepth 100000 in
theorem lwm_161 : (.methodLink RL 9 yL_cell : Cond) ∈ lw_tbl := tb_8 _ (List.mem_of_getElem? (i := 138) (by decide +kernel))
set_option maxRecDepth 100000 in
theorem lwm_162 : (.static yL_cell : Cond) ∈ lw_tbl := tb_8 _ (List.mem_of_getElem? (i := 139) (by decide +kernel))
set_option maxRecDepth 100000 in
theorem lwm_163 : (.initialized RL : Cond) ∈ lw_tbl := tb_1 _ (List.mem_of_getElem? (i := 0) (by decide +kernel))
set_option maxRecDepth 100000 in
theorem lwm_164 : (.methodLink RL 15 yX12_init : Cond) ∈ lw_tbl := tb_1 _ (List.mem_of_getElem? (i := 34) (by decide +kernel))
set_option maxRecDepth 100000 in
theorem lwm_165 : (.instanceMethod yX12_init : Cond) ∈ lw_tbl := tb_1 _ (List.mem_of_getElem? (i := 35) (by decide +kernel))
set_option maxRecDepth 100000 in
theorem lwm_166 : (.classLink RL 18 RX23 : Cond) ∈ lw_tbl := tb_8 _ (List.mem_of_getElem? (i := 141) (by decide +kernel))
set_option maxRecDepth 100000 in
theorem lwm_167 : (.methodLink RL 20 yX23_init : Cond) ∈ lw_tbl := tb_8 _ (List.mem_of_getElem? (i := 143) (by decide +kernel))
set_option maxRecDepth 100000 in
theorem lwm_168 : (.instanceMethod yX23_init : Cond) ∈ lw_tbl := tb_8 _ (List.mem_of_getElem? (i := 144) (by decide +kernel))
set_option maxRecDepth 100000 in
theorem lwm_169 : (.code yX12_feed cX12_feed 6 (some .boolean) : Cond) ∈ lw_tbl := tb_4 _ (List.mem_of_getElem? (i := 153) (by decide +kernel))
set_option maxRecDepth 100000 in
theorem lwm_170 : (.fieldLink RX12 12 "OwnedPlaces" "text" "LOwnedPlaces$Text;" : Cond) ∈ lw_tbl := tb_4 _ (List.mem_of_getElem? (i := 107) (by decide +kernel))
set_option maxRecDepth 100000 in
theorem lwm_171 : (.fieldLink RX12 109 "OwnedPlaces$Text" "length" "I" : Cond) ∈ lw_tbl := tb_1 _ (List.mem_of_getElem? (i := 134) (by decide +kernel))
set_option maxRecDepth 100000 in
theorem lwm_172 : (.code yX9_append cX9_append 3 none : Cond) ∈ lw_tbl := tb_4 _ (List.mem_of_getElem? (i := 157) (by decide +kernel))
set_option maxRecDepth 100000 in
theorem lwm_173 : (.fieldLink RX9 32 "OwnedPlaces$Text" "bytes" "[B" : Cond) ∈ lw_tbl := tb_1 _ (List.mem_of_getElem? (i := 148) (by decide +kernel))
set_option maxRecDepth 100000 in
theorem lwm_174 : (.fieldLink RX9 81 "OwnedPlaces$Text" "length" "I" : Cond) ∈ lw_tbl := tb_1 _ (List.mem_of_getElem? (i := 135) (by decide +kernel))
set_option maxRecDepth 100000 in
theorem lwm_175 : (.methodLink RX12 112 yX9_append : Cond) ∈ lw_tbl := tb_4 _ (List.mem_of_getElem? (i := 154) (by decide +kernel))
set_option maxRecDepth 100000 in
theorem lwm_176 : (.instanceMethod yX9_append : Cond) ∈ lw_tbl := tb_4 _ (List.mem_of_getElem? (i := 155) (by decide +kernel))
set_option maxRecDepth 100000 in
theorem lwm_177 : (.selects RX9 yX9_append yX9_append : Cond) ∈ lw_tbl := tb_4 _ (List.mem_of_getElem? (i := 156) (by decide +kernel))
set_option maxRecDepth 100000 in
theorem lwm_178 : (.initialized RX9 : Cond) ∈ lw_tbl := tb_1 _ (List.mem_of_getElem? (i := 2) (by decide +kernel))
set_option maxRecDepth 100000 in
theorem lwm_179 : (.code yX12_input cX12_input 3 (some .boolean) : Cond) ∈ lw_tbl := tb_4 _ (List.mem_of_getElem? (i := 161) (by decide +kernel))
set_option maxRecDepth 100000 in
theorem lwm_180 : (.fieldLink RX12 80 "OwnedPlaces" "numbers" "LOwnedPlaces$Queue;" : Cond) ∈ lw_tbl := tb_4 _ (List.mem_of_getElem? (i := 115) (by decide +kernel))
set_option maxRecDepth 100000 in
theorem lwm_181 : (.code yX8_put cX8_put 3 (some .boolean) : Cond) ∈ lw_tbl := tb_4 _ (List.mem_of_getElem? (i := 165) (by decide +kernel))
set_option maxRecDepth 100000 in
theorem lwm_182 : (.fieldLink RX8 17 "OwnedPlaces$Queue" "size" "I" : Cond) ∈ lw_tbl := tb_3 _ (List.mem_of_getElem? (i := 224) (by decide +kernel))
set_option maxRecDepth 100000 in
theorem lwm_183 : (.fieldLink RX8 13 "OwnedPlaces$Queue" "row" "[J" : Cond) ∈ lw_tbl := tb_3 _ (List.mem_of_getElem? (i := 221) (by decide +kernel))
set_option maxRecDepth 100000 in
theorem lwm_184 : (.fieldLink RX8 21 "OwnedPlaces$Queue" "first" "I" : Cond) ∈ lw_tbl := tb_3 _ (List.mem_of_getElem? (i := 223) (by decide +kernel))
set_option maxRecDepth 100000 in
theorem lwm_185 : (.methodLink RX12 115 yX8_put : Cond) ∈ lw_tbl := tb_4 _ (List.mem_of_getElem? (i := 162) (by decide +kernel))
set_option maxRecDepth 100000 in
theorem lwm_186 : (.instanceMethod yX8_put : Cond) ∈ lw_tbl := tb_4 _ (List.mem_of_getElem? (i := 163) (by decide +kernel))
set_option maxRecDepth 100000 in
theorem lwm_187 : (.selects RX8 yX8_put yX8_put : Cond) ∈ lw_tbl := tb_4 _ (List.mem_of_getElem? (i := 164) (by decide +kernel))
set_option maxRecDepth 100000 in
theorem lwm_188 : (.initialized RX8 : Cond) ∈ lw_tbl := tb_1 _ (List.mem_of_getElem? (i := 17) (by decide +kernel))
set_option maxRecDepth 100000 in
theorem lwm_189 : (.code yX12_place cX12_place 1 (some .int) : Cond) ∈ lw_tbl := tb_8 _ (List.mem_of_getElem? (i := 127) (by decide +kernel))
set_option maxRecDepth 100000 in
theorem lwm_190 : (.fieldLink RX12 87 "OwnedPlaces" "lastPlace" "I" : Cond) ∈ lw_tbl := tb_4 _ (List.mem_of_getElem? (i := 120) (by decide +kernel))
set_option maxRecDepth 100000 in
theorem lwm_191 : (.code yX12_fetch cX12_fetch 5 (some .long) : Cond) ∈ lw_tbl := tb_8 _ (List.mem_of_getElem? (i := 131) (by decide +kernel))
set_option maxRecDepth 100000 in
theorem lwm_192 : (.fieldLink RX12 84 "OwnedPlaces" "waiting" "LOwnedPlaces$Queue;" : Cond) ∈ lw_tbl := tb_4 _ (List.mem_of_getElem? (i := 116) (by decide +kernel))
set_option maxRecDepth 100000 in
theorem lwm_193 : (.fieldLink RX12 144 "OwnedPlaces$Queue" "size" "I" : Cond) ∈ lw_tbl := tb_3 _ (List.mem_of_getElem? (i := 225) (by decide +kernel))
set_option maxRecDepth 100000 in
theorem lwm_194 : (.methodLink RX12 147 Lib.Math.min.name : Cond) ∈ lw_tbl := tb_8 _ (List.mem_of_getElem? (i := 132) (by decide +kernel))
set_option maxRecDepth 100000 in
theorem lwm_195 : (.static Lib.Math.min.name : Cond) ∈ lw_tbl := tb_5 _ (List.mem_of_getElem? (i := 24) (by decide +kernel))
set_option maxRecDepth 100000 in
theorem lwm_196 : (.initialized "java/lang/Math" : Cond) ∈ lw_tbl := tb_1 _ (List.mem_of_getElem? (i := 21) (by decide +kernel))
set_option maxRecDepth 100000 in
theorem lwm_197 : (.code Lib.Math.min.name Lib.Math.min.code 2 (some .int) : Cond) ∈ lw_tbl := tb_5 _ (List.mem_of_getElem? (i := 25) (by decide +kernel))
set_option maxRecDepth 100000 in
theorem lwm_198 : (.code yX8_take cX8_take 3 (some .long) : Cond) ∈ lw_tbl := tb_8 _ (List.mem_of_getElem? (i := 4) (by decide +kernel))
set_option maxRecDepth 100000 in
theorem lwm_199 : (.methodLink RX12 152 yX8_take : Cond) ∈ lw_tbl := tb_8 _ (List.mem_of_getElem? (i := 133) (by decide +kernel))
set_option maxRecDepth 100000 in
theorem lwm_200 : (.instanceMethod yX8_take : Cond) ∈ lw_tbl := tb_8 _ (List.mem_of_getElem? (i := 2) (by decide +kernel))
set_option maxRecDepth 100000 in
theorem lwm_201 : (.selects RX8 yX8_take yX8_take : Cond) ∈ lw_tbl := tb_8 _ (List.mem_of_getElem? (i := 3) (by decide +kernel))
set_option maxRecDepth 100000 in
theorem lwm_202 : (.code yX12_count cX12_count 2 (some .int) : Cond) ∈ lw_tbl := tb_8 _ (List.mem_of_getElem? (i := 137) (by decide +kernel))
set_option maxRecDepth 100000 in
theorem lwm_203 : (.fieldLink RX12 128 "OwnedPlaces" "fuelLeft" "I" : Cond) ∈ lw_tbl := tb_4 _ (List.mem_of_getElem? (i := 119) (by decide +kernel))
set_option maxRecDepth 100000 in
theorem lwm_204 : (.fieldLink RX12 96 "OwnedPlaces" "memory" "LOwnedPlaces$Memory;" : Cond) ∈ lw_tbl := tb_4 _ (List.mem_of_getElem? (i := 117) (by decide +kernel))
set_option maxRecDepth 100000 in
theorem lwm_205 : (.fieldLink RX12 156 "OwnedPlaces$Memory" "inUse" "I" : Cond) ∈ lw_tbl := tb_4 _ (List.mem_of_getElem? (i := 9) (by decide +kernel))
set_option maxRecDepth 100000 in
theorem lwm_206 : (.fieldLink RX12 159 "OwnedPlaces$Memory" "mostInUse" "I" : Cond) ∈ lw_tbl := tb_4 _ (List.mem_of_getElem? (i := 11) (by decide +kernel))
set_option maxRecDepth 100000 in
theorem lwm_207 : (.code yX12_run cX12_run 4 (some .int) : Cond) ∈ lw_tbl := tb_4 _ (List.mem_of_getElem? (i := 169) (by decide +kernel))
set_option maxRecDepth 100000 in
theorem lwm_208 : (.code yX6_clear cX6_clear 1 none : Cond) ∈ lw_tbl := tb_4 _ (List.mem_of_getElem? (i := 173) (by decide +kernel))
set_option maxRecDepth 100000 in
theorem lwm_209 : (.fieldLink RX6 37 "OwnedPlaces$Memory" "taken" "[B" : Cond) ∈ lw_tbl := tb_4 _ (List.mem_of_getElem? (i := 6) (by decide +kernel))
set_option maxRecDepth 100000 in
theorem lwm_210 : (.code yJ7_fill_031fb cJ7_fill_031fb 4 none : Cond) ∈ lw_tbl := tb_4 _ (List.mem_of_getElem? (i := 176) (by decide +kernel))
set_option maxRecDepth 100000 in
theorem lwm_211 : (.methodLink RX6 41 yJ7_fill_031fb : Cond) ∈ lw_tbl := tb_4 _ (List.mem_of_getElem? (i := 174) (by decide +kernel))
set_option maxRecDepth 100000 in
theorem lwm_212 : (.static yJ7_fill_031fb : Cond) ∈ lw_tbl := tb_4 _ (List.mem_of_getElem? (i := 175) (by decide +kernel))
set_option maxRecDepth 100000 in
theorem lwm_213 : (.initialized RJ7 : Cond) ∈ lw_tbl := tb_1 _ (List.mem_of_getElem? (i := 3) (by decide +kernel))
set_option maxRecDepth 100000 in
theorem lwm_214 : (.fieldLink RX6 47 "OwnedPlaces$Memory" "lowest" "I" : Cond) ∈ lw_tbl := tb_4 _ (List.mem_of_getElem? (i := 7) (by decide +kernel))
set_option maxRecDepth 100000 in
theorem lwm_215 : (.fieldLink RX6 50 "OwnedPlaces$Memory" "inUse" "I" : Cond) ∈ lw_tbl := tb_4 _ (List.mem_of_getElem? (i := 8) (by decide +kernel))
set_option maxRecDepth 100000 in
theorem lwm_216 : (.fieldLink RX6 53 "OwnedPlaces$Memory" "mostInUse" "I" : Cond) ∈ lw_tbl := tb_4 _ (List.mem_of_getElem? (i := 10) (by decide +kernel))
set_option maxRecDepth 100000 in
theorem lwm_217 : (.methodLink RX12 119 yX6_clear : Cond) ∈ lw_tbl := tb_4 _ (List.mem_of_getElem? (i := 170) (by decide +kernel))
set_option maxRecDepth 100000 in
theorem lwm_218 : (.instanceMethod yX6_clear : Cond) ∈ lw_tbl := tb_4 _ (List.mem_of_getElem? (i := 171) (by decide +kernel))
set_option maxRecDepth 100000 in
theorem lwm_219 : (.selects RX6 yX6_clear yX6_clear : Cond) ∈ lw_tbl := tb_4 _ (List.mem_of_getElem? (i := 172) (by decide +kernel))
set_option maxRecDepth 100000 in
theorem lwm_220 : (.initialized RX6 : Cond) ∈ lw_tbl := tb_1 _ (List.mem_of_getElem? (i := 18) (by decide +kernel))
set_option maxRecDepth 100000 in
theorem lwm_221 : (.code yX12_lookOver cX12_lookOver 5 none : Cond) ∈ lw_tbl := tb_4 _ (List.mem_of_getElem? (i := 180) (by decide +kernel))
set_option maxRecDepth 100000 in
theorem lwm_222 : (.fieldLink RX12 37 "OwnedPlaces" "declared" "LOwnedPlaces$Declarations;" : Cond) ∈ lw_tbl := tb_4 _ (List.mem_of_getElem? (i := 110) (by decide +kernel))
set_option maxRecDepth 100000 in
theorem lwm_223 : (.fieldLink RX12 172 "OwnedPlaces$Declarations" "total" "I" : Cond) ∈ lw_tbl := tb_2 _ (List.mem_of_getElem? (i := 196) (by decide +kernel))
set_option maxRecDepth 100000 in
theorem lwm_224 : (.fieldLink RX12 131 "OwnedPlaces$Text" "fault" "I" : Cond) ∈ lw_tbl := tb_1 _ (List.mem_of_getElem? (i := 143) (by decide +kernel))
set_option maxRecDepth 100000 in
theorem lwm_225 : (.fieldLink RX12 62 "OwnedPlaces" "moves" "LOwnedPlaces$Moves;" : Cond) ∈ lw_tbl := tb_4 _ (List.mem_of_getElem? (i := 113) (by decide +kernel))
set_option maxRecDepth 100000 in
theorem lwm_226 : (.fieldLink RX12 175 "OwnedPlaces$Declarations" "functions" "[LOwnedPlaces$Function;" : Cond) ∈ lw_tbl := tb_2 _ (List.mem_of_getElem? (i := 191) (by decide +kernel))
set_option maxRecDepth 100000 in
theorem lwm_227 : (.code yX7_firstFault cX7_firstFault 3 (some .int) : Cond) ∈ lw_tbl := tb_7 _ (List.mem_of_getElem? (i := 46) (by decide +kernel))
set_option maxRecDepth 100000 in
theorem lwm_228 : (.fieldLink RX7 31 "OwnedPlaces$Moves" "function" "LOwnedPlaces$Function;" : Cond) ∈ lw_tbl := tb_3 _ (List.mem_of_getElem? (i := 127) (by decide +kernel))
set_option maxRecDepth 100000 in
theorem lwm_229 : (.fieldLink RX7 35 "OwnedPlaces$Moves" "first" "I" : Cond) ∈ lw_tbl := tb_3 _ (List.mem_of_getElem? (i := 133) (by decide +kernel))
set_option maxRecDepth 100000 in
theorem lwm_230 : (.fieldLink RX7 16 "OwnedPlaces$Moves" "rows" "[I" : Cond) ∈ lw_tbl := tb_3 _ (List.mem_of_getElem? (i := 129) (by decide +kernel))
set_option maxRecDepth 100000 in
theorem lwm_231 : (.fieldLink RX7 39 "OwnedPlaces$Function" "labelFrom" "I" : Cond) ∈ lw_tbl := tb_2 _ (List.mem_of_getElem? (i := 133) (by decide +kernel))
set_option maxRecDepth 100000 in
theorem lwm_232 : (.fieldLink RX7 44 "OwnedPlaces$Function" "labelTo" "I" : Cond) ∈ lw_tbl := tb_2 _ (List.mem_of_getElem? (i := 136) (by decide +kernel))
set_option maxRecDepth 100000 in
theorem lwm_233 : (.code yJ7_fill_fda19 cJ7_fill_fda19 5 none : Cond) ∈ lw_tbl := tb_5 _ (List.mem_of_getElem? (i := 159) (by decide +kernel))
set_option maxRecDepth 100000 in
theorem lwm_234 : (.code yJ7_rangeCheck_23922 cJ7_rangeCheck_23922 3 none : Cond) ∈ lw_tbl := tb_5 _ (List.mem_of_getElem? (i := 162) (by decide +kernel))
set_option maxRecDepth 100000 in
theorem lwm_235 : (.methodLink RJ7 13 yJ7_rangeCheck_23922 : Cond) ∈ lw_tbl := tb_5 _ (List.mem_of_getElem? (i := 160) (by decide +kernel))
set_option maxRecDepth 100000 in
theorem lwm_236 : (.static yJ7_rangeCheck_23922 : Cond) ∈ lw_tbl := tb_5 _ (List.mem_of_getElem? (i := 161) (by decide +kernel))
set_option maxRecDepth 100000 in
theorem lwm_237 : (.methodLink RX7 47 yJ7_fill_fda19 : Cond) ∈ lw_tbl := tb_7 _ (List.mem_of_getElem? (i := 47) (by decide +kernel))
set_option maxRecDepth 100000 in
theorem lwm_238 : (.static yJ7_fill_fda19 : Cond) ∈ lw_tbl := tb_5 _ (List.mem_of_getElem? (i := 158) (by decide +kernel))
set_option maxRecDepth 100000 in
theorem lwm_239 : (.fieldLink RX7 19 "OwnedPlaces$Moves" "reached" "[Z" : Cond) ∈ lw_tbl := tb_3 _ (List.mem_of_getElem? (i := 130) (by decide +kernel))
set_option maxRecDepth 100000 in
theorem lwm_240 : (.fieldLink RX7 53 "OwnedPlaces$Moves" "again" "Z" : Cond) ∈ lw_tbl := tb_3 _ (List.mem_of_getElem? (i := 132) (by decide +kernel))
set_option maxRecDepth 100000 in
theorem lwm_241 : (.constant RX7 57 1000000 : Cond) ∈ lw_tbl := tb_7 _ (List.mem_of_getElem? (i := 48) (by decide +kernel))
set_option maxRecDepth 100000 in
theorem lwm_242 : (.code yX7_pass cX7_pass 2 none : Cond) ∈ lw_tbl := tb_7 _ (List.mem_of_getElem? (i := 52) (by decide +kernel))
set_option maxRecDepth 100000 in
theorem lwm_243 : (.fieldLink RX7 61 "OwnedPlaces$Moves" "isReached" "Z" : Cond) ∈ lw_tbl := tb_3 _ (List.mem_of_getElem? (i := 131) (by decide +kernel))
set_option maxRecDepth 100000 in
theorem lwm_244 : (.fieldLink RX7 64 "OwnedPlaces$Function" "variables" "I" : Cond) ∈ lw_tbl := tb_2 _ (List.mem_of_getElem? (i := 102) (by decide +kernel))
set_option maxRecDepth 100000 in
theorem lwm_245 : (.fieldLink RX7 9 "OwnedPlaces$Moves" "state" "[I" : Cond) ∈ lw_tbl := tb_3 _ (List.mem_of_getElem? (i := 128) (by decide +kernel))
set_option maxRecDepth 100000 in
theorem lwm_246 : (.fieldLink RX7 67 "OwnedPlaces$Function" "parameters" "I" : Cond) ∈ lw_tbl := tb_2 _ (List.mem_of_getElem? (i := 85) (by decide +kernel))
set_option maxRecDepth 100000 in
theorem lwm_247 : (.code yX7_full cX7_full 2 (some .int) : Cond) ∈ lw_tbl := tb_7 _ (List.mem_of_getElem? (i := 56) (by decide +kernel))
set_option maxRecDepth 100000 in
theorem lwm_248 : (.fieldLink RX7 95 "OwnedPlaces$Function" "type" "[I" : Cond) ∈ lw_tbl := tb_2 _ (List.mem_of_getElem? (i := 109) (by decide +kernel))
set_option maxRecDepth 100000 in
theorem lwm_249 : (.fieldLink RX7 23 "OwnedPlaces$Moves" "types" "LOwnedPlaces$Types;" : Cond) ∈ lw_tbl := tb_3 _ (List.mem_of_getElem? (i := 125) (by decide +kernel))
set_option maxRecDepth 100000 in
theorem lwm_250 : (.fieldLink RX7 98 "OwnedPlaces$Types" "size" "[I" : Cond) ∈ lw_tbl := tb_2 _ (List.mem_of_getElem? (i := 1) (by decide +kernel))
set_option maxRecDepth 100000 in
theorem lwm_251 : (.methodLink RX7 70 yX7_full : Cond) ∈ lw_tbl := tb_7 _ (List.mem_of_getElem? (i := 53) (by decide +kernel))
set_option maxRecDepth 100000 in
theorem lwm_252 : (.instanceMethod yX7_full : Cond) ∈ lw_tbl := tb_7 _ (List.mem_of_getElem? (i := 55) (by decide +kernel))
set_option maxRecDepth 100000 in
theorem lwm_253 : (.selects RX7 yX7_full yX7_full : Cond) ∈ lw_tbl := List.mem_append_left _ (List.mem_of_getElem? (i := 97) (by decide +kernel))
set_option maxRecDepth 100000 in
theorem lwm_254 : (.initialized RX7 : Cond) ∈ lw_tbl := tb_1 _ (List.mem_of_getElem? (i := 15) (by decide +kernel))
set_option maxRecDepth 100000 in
theorem lwm_255 : (.fieldLink RX7 74 "OwnedPlaces$Function" "codeFrom" "I" : Cond) ∈ lw_tbl := tb_2 _ (List.mem_of_getElem? (i := 127) (by decide +kernel))
set_option maxRecDepth 100000 in
theorem lwm_256 : (.fieldLink RX7 77 "OwnedPlaces$Function" "codeTo" "I" : Cond) ∈ lw_tbl := tb_2 _ (List.mem_of_getElem? (i := 131) (by decide +kernel))
set_option maxRecDepth 100000 in
theorem lwm_257 : (.fieldLink RX7 27 "OwnedPlaces$Moves" "code" "LOwnedPlaces$Code;" : Cond) ∈ lw_tbl := tb_3 _ (List.mem_of_getElem? (i := 126) (by decide +kernel))
set_option maxRecDepth 100000 in
theorem lwm_258 : (.fieldLink RX7 80 "OwnedPlaces$Code" "op" "[I" : Cond) ∈ lw_tbl := tb_2 _ (List.mem_of_getElem? (i := 228) (by decide +kernel))
set_option maxRecDepth 100000 in
theorem lwm_259 : (.fieldLink RX7 85 "OwnedPlaces$Code" "a" "[I" : Cond) ∈ lw_tbl := tb_2 _ (List.mem_of_getElem? (i := 231) (by decide +kernel))
set_option maxRecDepth 100000 in
theorem lwm_260 : (.code yX7_join cX7_join 4 none : Cond) ∈ lw_tbl := tb_7 _ (List.mem_of_getElem? (i := 60) (by decide +kernel))
set_option maxRecDepth 100000 in
theorem lwm_261 : (.methodLink RX7 88 yX7_join : Cond) ∈ lw_tbl := tb_7 _ (List.mem_of_getElem? (i := 57) (by decide +kernel))
set_option maxRecDepth 100000 in
theorem lwm_262 : (.instanceMethod yX7_join : Cond) ∈ lw_tbl := tb_7 _ (List.mem_of_getElem? (i := 59) (by decide +kernel))
set_option maxRecDepth 100000 in
theorem lwm_263 : (.selects RX7 yX7_join yX7_join : Cond) ∈ lw_tbl := List.mem_append_left _ (List.mem_of_getElem? (i := 98) (by decide +kernel))
set_option maxRecDepth 100000 in
theorem lwm_264 : (.code yX7_look cX7_look 3 none : Cond) ∈ lw_tbl := tb_7 _ (List.mem_of_getElem? (i := 64) (by decide +kernel))
set_option maxRecDepth 100000 in
theorem lwm_265 : (.code yX7_use cX7_use 2 none : Cond) ∈ lw_tbl := tb_7 _ (List.mem_of_getElem? (i := 68) (by decide +kernel))
set_option maxRecDepth 100000 in
theorem lwm_266 : (.fieldLink RX7 106 "OwnedPlaces$Code" "placeVariable" "[I" : Cond) ∈ lw_tbl := tb_3 _ (List.mem_of_getElem? (i := 10) (by decide +kernel))
set_option maxRecDepth 100000 in
theorem lwm_267 : (.fieldLink RX7 109 "OwnedPlaces$Code" "placeCells" "[I" : Cond) ∈ lw_tbl := tb_3 _ (List.mem_of_getElem? (i := 26) (by decide +kernel))
set_option maxRecDepth 100000 in
theorem lwm_268 : (.code yX7_tell cX7_tell 3 none : Cond) ∈ lw_tbl := tb_7 _ (List.mem_of_getElem? (i := 72) (by decide +kernel))
set_option maxRecDepth 100000 in
theorem lwm_269 : (.fieldLink RX7 144 "OwnedPlaces$Code" "placeWhere" "[I" : Cond) ∈ lw_tbl := tb_3 _ (List.mem_of_getElem? (i := 23) (by decide +kernel))
set_option maxRecDepth 100000 in
theorem lwm_270 : (.methodLink RX7 132 yX7_tell : Cond) ∈ lw_tbl := tb_7 _ (List.mem_of_getElem? (i := 69) (by decide +kernel))
set_option maxRecDepth 100000 in
theorem lwm_271 : (.instanceMethod yX7_tell : Cond) ∈ lw_tbl := tb_7 _ (List.mem_of_getElem? (i := 71) (by decide +kernel))
set_option maxRecDepth 100000 in
theorem lwm_272 : (.selects RX7 yX7_tell yX7_tell : Cond) ∈ lw_tbl := List.mem_append_left _ (List.mem_of_getElem? (i := 101) (by decide +kernel))
set_option maxRecDepth 100000 in
theorem lwm_273 : (.methodLink RX7 103 yX7_use : Cond) ∈ lw_tbl := tb_7 _ (List.mem_of_getElem? (i := 65) (by decide +kernel))
set_option maxRecDepth 100000 in
theorem lwm_274 : (.instanceMethod yX7_use : Cond) ∈ lw_tbl := tb_7 _ (List.mem_of_getElem? (i := 67) (by decide +kernel))
set_option maxRecDepth 100000 in
theorem lwm_275 : (.selects RX7 yX7_use yX7_use : Cond) ∈ lw_tbl := List.mem_append_left _ (List.mem_of_getElem? (i := 100) (by decide +kernel))
set_option maxRecDepth 100000 in
theorem lwm_276 : (.code yX7_lose cX7_lose 3 none : Cond) ∈ lw_tbl := tb_7 _ (List.mem_of_getElem? (i := 76) (by decide +kernel))
set_option maxRecDepth 100000 in
theorem lwm_277 : (.methodLink RX7 112 yX7_lose : Cond) ∈ lw_tbl := tb_7 _ (List.mem_of_getElem? (i := 73) (by decide +kernel))
set_option maxRecDepth 100000 in
theorem lwm_278 : (.instanceMethod yX7_lose : Cond) ∈ lw_tbl := tb_7 _ (List.mem_of_getElem? (i := 75) (by decide +kernel))
set_option maxRecDepth 100000 in
theorem lwm_279 : (.selects RX7 yX7_lose yX7_lose : Cond) ∈ lw_tbl := List.mem_append_left _ (List.mem_of_getElem? (i := 102) (by decide +kernel))
set_option maxRecDepth 100000 in
theorem lwm_280 : (.code yX7_flow cX7_flow 4 none : Cond) ∈ lw_tbl := tb_7 _ (List.mem_of_getElem? (i := 88) (by decide +kernel))
set_option maxRecDepth 100000 in
theorem lwm_281 : (.code yX7_send cX7_send 6 (some .boolean) : Cond) ∈ lw_tbl := tb_7 _ (List.mem_of_getElem? (i := 92) (by decide +kernel))
set_option maxRecDepth 100000 in
theorem lwm_282 : (.methodLink RX7 122 yX7_send : Cond) ∈ lw_tbl := tb_7 _ (List.mem_of_getElem? (i := 89) (by decide +kernel))
set_option maxRecDepth 100000 in
theorem lwm_283 : (.instanceMethod yX7_send : Cond) ∈ lw_tbl := tb_7 _ (List.mem_of_getElem? (i := 91) (by decide +kernel))
set_option maxRecDepth 100000 in
theorem lwm_284 : (.selects RX7 yX7_send yX7_send : Cond) ∈ lw_tbl := List.mem_append_left _ (List.mem_of_getElem? (i := 105) (by decide +kernel))
set_option maxRecDepth 100000 in
theorem lwm_285 : (.fieldLink RX7 126 "OwnedPlaces$Code" "c" "[I" : Cond) ∈ lw_tbl := tb_2 _ (List.mem_of_getElem? (i := 238) (by decide +kernel))
set_option maxRecDepth 100000 in
theorem lwm_286 : (.fieldLink RX7 129 "OwnedPlaces$Code" "armLabels" "[I" : Cond) ∈ lw_tbl := tb_3 _ (List.mem_of_getElem? (i := 31) (by decide +kernel))
set_option maxRecDepth 100000 in
theorem lwm_287 : (.methodLink RX7 119 yX7_flow : Cond) ∈ lw_tbl := tb_7 _ (List.mem_of_getElem? (i := 85) (by decide +kernel))
set_option maxRecDepth 100000 in
theorem lwm_288 : (.instanceMethod yX7_flow : Cond) ∈ lw_tbl := tb_7 _ (List.mem_of_getElem? (i := 87) (by decide +kernel))
set_option maxRecDepth 100000 in
theorem lwm_289 : (.selects RX7 yX7_flow yX7_flow : Cond) ∈ lw_tbl := List.mem_append_left _ (List.mem_of_getElem? (i := 104) (by decide +kernel))
set_option maxRecDepth 100000 in
theorem lwm_290 : (.code yX7_assign cX7_assign 4 none : Cond) ∈ lw_tbl := tb_7 _ (List.mem_of_getElem? (i := 80) (by decide +kernel))
set_option maxRecDepth 100000 in
theorem lwm_291 : (.code yX0_hasStars cX0_hasStars 2 (some .boolean) : Cond) ∈ lw_tbl := tb_7 _ (List.mem_of_getElem? (i := 84) (by decide +kernel))
set_option maxRecDepth 100000 in
theorem lwm_292 : (.fieldLink RX0 39 "OwnedPlaces$Code" "placeRoute" "[I" : Cond) ∈ lw_tbl := tb_3 _ (List.mem_of_getElem? (i := 17) (by decide +kernel))
set_option maxRecDepth 100000 in
theorem lwm_293 : (.methodLink RX7 135 yX0_hasStars : Cond) ∈ lw_tbl := tb_7 _ (List.mem_of_getElem? (i := 81) (by decide +kernel))
set_option maxRecDepth 100000 in
theorem lwm_294 : (.instanceMethod yX0_hasStars : Cond) ∈ lw_tbl := tb_7 _ (List.mem_of_getElem? (i := 82) (by decide +kernel))
set_option maxRecDepth 100000 in
theorem lwm_295 : (.selects RX0 yX0_hasStars yX0_hasStars : Cond) ∈ lw_tbl := tb_7 _ (List.mem_of_getElem? (i := 83) (by decide +kernel))
set_option maxRecDepth 100000 in
theorem lwm_296 : (.initialized RX0 : Cond) ∈ lw_tbl := tb_1 _ (List.mem_of_getElem? (i := 13) (by decide +kernel))
set_option maxRecDepth 100000 in
theorem lwm_297 : (.fieldLink RX7 138 "OwnedPlaces$Code" "placeLength" "[I" : Cond) ∈ lw_tbl := tb_3 _ (List.mem_of_getElem? (i := 16) (by decide +kernel))
set_option maxRecDepth 100000 in
theorem lwm_298 : (.fieldLink RX7 141 "OwnedPlaces$Function" "mutable" "[Z" : Cond) ∈ lw_tbl := tb_2 _ (List.mem_of_getElem? (i := 114) (by decide +kernel))
set_option maxRecDepth 100000 in
theorem lwm_299 : (.methodLink RX7 116 yX7_assign : Cond) ∈ lw_tbl := tb_7 _ (List.mem_of_getElem? (i := 77) (by decide +kernel))
set_option maxRecDepth 100000 in
theorem lwm_300 : (.instanceMethod yX7_assign : Cond) ∈ lw_tbl := tb_7 _ (List.mem_of_getElem? (i := 79) (by decide +kernel))
set_option maxRecDepth 100000 in
theorem lwm_301 : (.selects RX7 yX7_assign yX7_assign : Cond) ∈ lw_tbl := List.mem_append_left _ (List.mem_of_getElem? (i := 103) (by decide +kernel))
set_option maxRecDepth 100000 in
theorem lwm_302 : (.methodLink RX7 92 yX7_look : Cond) ∈ lw_tbl := tb_7 _ (List.mem_of_getElem? (i := 61) (by decide +kernel))
set_option maxRecDepth 100000 in
theorem lwm_303 : (.instanceMethod yX7_look : Cond) ∈ lw_tbl := tb_7 _ (List.mem_of_getElem? (i := 63) (by decide +kernel))
set_option maxRecDepth 100000 in
theorem lwm_304 : (.selects RX7 yX7_look yX7_look : Cond) ∈ lw_tbl := List.mem_append_left _ (List.mem_of_getElem? (i := 99) (by decide +kernel))
set_option maxRecDepth 100000 in
theorem lwm_305 : (.methodLink RX7 58 yX7_pass : Cond) ∈ lw_tbl := tb_7 _ (List.mem_of_getElem? (i := 49) (by decide +kernel))
set_option maxRecDepth 100000 in
theorem lwm_306 : (.instanceMethod yX7_pass : Cond) ∈ lw_tbl := tb_7 _ (List.mem_of_getElem? (i := 51) (by decide +kernel))
set_option maxRecDepth 100000 in
theorem lwm_307 : (.selects RX7 yX7_pass yX7_pass : Cond) ∈ lw_tbl := List.mem_append_left _ (List.mem_of_getElem? (i := 96) (by decide +kernel))
set_option maxRecDepth 100000 in
theorem lwm_308 : (.methodLink RX12 179 yX7_firstFault : Cond) ∈ lw_tbl := tb_7 _ (List.mem_of_getElem? (i := 43) (by decide +kernel))
set_option maxRecDepth 100000 in
theorem lwm_309 : (.instanceMethod yX7_firstFault : Cond) ∈ lw_tbl := tb_7 _ (List.mem_of_getElem? (i := 44) (by decide +kernel))
set_option maxRecDepth 100000 in
theorem lwm_310 : (.selects RX7 yX7_firstFault yX7_firstFault : Cond) ∈ lw_tbl := tb_7 _ (List.mem_of_getElem? (i := 45) (by decide +kernel))
set_option maxRecDepth 100000 in
theorem lwm_311 : (.code yX9_fail cX9_fail 3 none : Cond) ∈ lw_tbl := tb_5 _ (List.mem_of_getElem? (i := 14) (by decide +kernel))
set_option maxRecDepth 100000 in
theorem lwm_312 : (.fieldLink RX9 95 "OwnedPlaces$Text" "fault" "I" : Cond) ∈ lw_tbl := tb_1 _ (List.mem_of_getElem? (i := 142) (by decide +kernel))
set_option maxRecDepth 100000 in
theorem lwm_313 : (.fieldLink RX9 92 "OwnedPlaces$Text" "total" "I" : Cond) ∈ lw_tbl := tb_1 _ (List.mem_of_getElem? (i := 149) (by decide +kernel))
set_option maxRecDepth 100000 in
theorem lwm_314 : (.fieldLink RX9 106 "OwnedPlaces$Text" "now" "I" : Cond) ∈ lw_tbl := tb_1 _ (List.mem_of_getElem? (i := 137) (by decide +kernel))
set_option maxRecDepth 100000 in
theorem lwm_315 : (.fieldLink RX9 28 "OwnedPlaces$Text" "place" "I" : Cond) ∈ lw_tbl := tb_1 _ (List.mem_of_getElem? (i := 144) (by decide +kernel))
set_option maxRecDepth 100000 in
theorem lwm_316 : (.methodLink RX12 184 yX9_fail : Cond) ∈ lw_tbl := tb_7 _ (List.mem_of_getElem? (i := 191) (by decide +kernel))
set_option maxRecDepth 100000 in
theorem lwm_317 : (.instanceMethod yX9_fail : Cond) ∈ lw_tbl := tb_5 _ (List.mem_of_getElem? (i := 12) (by decide +kernel))
set_option maxRecDepth 100000 in
theorem lwm_318 : (.selects RX9 yX9_fail yX9_fail : Cond) ∈ lw_tbl := tb_5 _ (List.mem_of_getElem? (i := 13) (by decide +kernel))
set_option maxRecDepth 100000 in
theorem lwm_319 : (.fieldLink RX12 71 "OwnedPlaces" "loans" "LOwnedPlaces$Loans;" : Cond) ∈ lw_tbl := tb_4 _ (List.mem_of_getElem? (i := 114) (by decide +kernel))
set_option maxRecDepth 100000 in
theorem lwm_320 : (.code yX4_firstFault cX4_firstFault 3 (some .int) : Cond) ∈ lw_tbl := tb_7 _ (List.mem_of_getElem? (i := 96) (by decide +kernel))
set_option maxRecDepth 100000 in
theorem lwm_321 : (.fieldLink RX4 54 "OwnedPlaces$Loans" "function" "LOwnedPlaces$Function;" : Cond) ∈ lw_tbl := tb_3 _ (List.mem_of_getElem? (i := 163) (by decide +kernel))
set_option maxRecDepth 100000 in
theorem lwm_322 : (.fieldLink RX4 58 "OwnedPlaces$Loans" "first" "I" : Cond) ∈ lw_tbl := tb_3 _ (List.mem_of_getElem? (i := 177) (by decide +kernel))
set_option maxRecDepth 100000 in
theorem lwm_323 : (.fieldLink RX4 62 "OwnedPlaces$Function" "borrows" "I" : Cond) ∈ lw_tbl := tb_2 _ (List.mem_of_getElem? (i := 139) (by decide +kernel))
set_option maxRecDepth 100000 in
theorem lwm_324 : (.code yX4_gatherLoans cX4_gatherLoans 4 none : Cond) ∈ lw_tbl := tb_7 _ (List.mem_of_getElem? (i := 101) (by decide +kernel))
set_option maxRecDepth 100000 in
theorem lwm_325 : (.fieldLink RX4 102 "OwnedPlaces$Loans" "sharedLoans" "J" : Cond) ∈ lw_tbl := tb_3 _ (List.mem_of_getElem? (i := 174) (by decide +kernel))
set_option maxRecDepth 100000 in
theorem lwm_326 : (.fieldLink RX4 39 "OwnedPlaces$Loans" "loansOn" "[J" : Cond) ∈ lw_tbl := tb_3 _ (List.mem_of_getElem? (i := 173) (by decide +kernel))
set_option maxRecDepth 100000 in
theorem lwm_327 : (.code yJ7_fill_d0a16 cJ7_fill_d0a16 5 none : Cond) ∈ lw_tbl := tb_7 _ (List.mem_of_getElem? (i := 104) (by decide +kernel))
set_option maxRecDepth 100000 in
theorem lwm_328 : (.methodLink RX4 106 yJ7_fill_d0a16 : Cond) ∈ lw_tbl := tb_7 _ (List.mem_of_getElem? (i := 102) (by decide +kernel))
set_option maxRecDepth 100000 in
theorem lwm_329 : (.static yJ7_fill_d0a16 : Cond) ∈ lw_tbl := tb_7 _ (List.mem_of_getElem? (i := 103) (by decide +kernel))
set_option maxRecDepth 100000 in
theorem lwm_330 : (.fieldLink RX4 109 "OwnedPlaces$Function" "codeFrom" "I" : Cond) ∈ lw_tbl := tb_2 _ (List.mem_of_getElem? (i := 126) (by decide +kernel))
set_option maxRecDepth 100000 in
theorem lwm_331 : (.fieldLink RX4 112 "OwnedPlaces$Function" "codeTo" "I" : Cond) ∈ lw_tbl := tb_2 _ (List.mem_of_getElem? (i := 130) (by decide +kernel))
set_option maxRecDepth 100000 in
theorem lwm_332 : (.fieldLink RX4 46 "OwnedPlaces$Loans" "code" "LOwnedPlaces$Code;" : Cond) ∈ lw_tbl := tb_3 _ (List.mem_of_getElem? (i := 161) (by decide +kernel))
set_option maxRecDepth 100000 in
theorem lwm_333 : (.fieldLink RX4 115 "OwnedPlaces$Code" "op" "[I" : Cond) ∈ lw_tbl := tb_2 _ (List.mem_of_getElem? (i := 227) (by decide +kernel))
set_option maxRecDepth 100000 in
theorem lwm_334 : (.fieldLink RX4 120 "OwnedPlaces$Code" "b" "[I" : Cond) ∈ lw_tbl := tb_2 _ (List.mem_of_getElem? (i := 234) (by decide +kernel))
set_option maxRecDepth 100000 in
theorem lwm_335 : (.fieldLink RX4 32 "OwnedPlaces$Loans" "placeOf" "[I" : Cond) ∈ lw_tbl := tb_3 _ (List.mem_of_getElem? (i := 171) (by decide +kernel))
set_option maxRecDepth 100000 in
theorem lwm_336 : (.fieldLink RX4 123 "OwnedPlaces$Code" "a" "[I" : Cond) ∈ lw_tbl := tb_2 _ (List.mem_of_getElem? (i := 230) (by decide +kernel))
set_option maxRecDepth 100000 in
theorem lwm_337 : (.fieldLink RX4 126 "OwnedPlaces$Code" "placeVariable" "[I" : Cond) ∈ lw_tbl := tb_3 _ (List.mem_of_getElem? (i := 9) (by decide +kernel))
set_option maxRecDepth 100000 in
theorem lwm_338 : (.fieldLink RX4 129 "OwnedPlaces$Code" "c" "[I" : Cond) ∈ lw_tbl := tb_2 _ (List.mem_of_getElem? (i := 237) (by decide +kernel))
set_option maxRecDepth 100000 in
theorem lwm_339 : (.methodLink RX4 76 yX4_gatherLoans : Cond) ∈ lw_tbl := tb_7 _ (List.mem_of_getElem? (i := 98) (by decide +kernel))
set_option maxRecDepth 100000 in
theorem lwm_340 : (.instanceMethod yX4_gatherLoans : Cond) ∈ lw_tbl := tb_7 _ (List.mem_of_getElem? (i := 100) (by decide +kernel))
set_option maxRecDepth 100000 in
theorem lwm_341 : (.selects RX4 yX4_gatherLoans yX4_gatherLoans : Cond) ∈ lw_tbl := List.mem_append_left _ (List.mem_of_getElem? (i := 106) (by decide +kernel))
set_option maxRecDepth 100000 in
theorem lwm_342 : (.initialized RX4 : Cond) ∈ lw_tbl := tb_1 _ (List.mem_of_getElem? (i := 16) (by decide +kernel))
set_option maxRecDepth 100000 in
theorem lwm_343 : (.code yX4_findUses cX4_findUses 5 none : Cond) ∈ lw_tbl := tb_7 _ (List.mem_of_getElem? (i := 108) (by decide +kernel))
set_option maxRecDepth 100000 in
theorem lwm_344 : (.fieldLink RX4 15 "OwnedPlaces$Loans" "usedAt" "[J" : Cond) ∈ lw_tbl := tb_3 _ (List.mem_of_getElem? (i := 165) (by decide +kernel))
set_option maxRecDepth 100000 in
theorem lwm_345 : (.fieldLink RX4 82 "OwnedPlaces$Function" "labelFrom" "I" : Cond) ∈ lw_tbl := tb_2 _ (List.mem_of_getElem? (i := 134) (by decide +kernel))
set_option maxRecDepth 100000 in
theorem lwm_346 : (.fieldLink RX4 85 "OwnedPlaces$Function" "labelTo" "I" : Cond) ∈ lw_tbl := tb_2 _ (List.mem_of_getElem? (i := 137) (by decide +kernel))
set_option maxRecDepth 100000 in
theorem lwm_347 : (.code yJ7_fill_bad5a cJ7_fill_bad5a 6 none : Cond) ∈ lw_tbl := tb_7 _ (List.mem_of_getElem? (i := 111) (by decide +kernel))
set_option maxRecDepth 100000 in
theorem lwm_348 : (.methodLink RX4 88 yJ7_fill_bad5a : Cond) ∈ lw_tbl := tb_7 _ (List.mem_of_getElem? (i := 109) (by decide +kernel))
set_option maxRecDepth 100000 in
theorem lwm_349 : (.static yJ7_fill_bad5a : Cond) ∈ lw_tbl := tb_7 _ (List.mem_of_getElem? (i := 110) (by decide +kernel))
set_option maxRecDepth 100000 in
theorem lwm_350 : (.fieldLink RX4 94 "OwnedPlaces$Loans" "again" "Z" : Cond) ∈ lw_tbl := tb_3 _ (List.mem_of_getElem? (i := 176) (by decide +kernel))
set_option maxRecDepth 100000 in
theorem lwm_351 : (.constant RX4 98 1000000 : Cond) ∈ lw_tbl := tb_7 _ (List.mem_of_getElem? (i := 112) (by decide +kernel))
set_option maxRecDepth 100000 in
theorem lwm_352 : (.fieldLink RX4 9 "OwnedPlaces$Loans" "usedBehind" "[J" : Cond) ∈ lw_tbl := tb_3 _ (List.mem_of_getElem? (i := 164) (by decide +kernel))
set_option maxRecDepth 100000 in
theorem lwm_353 : (.code yX4_usedAhead cX4_usedAhead 7 (some .long) : Cond) ∈ lw_tbl := tb_7 _ (List.mem_of_getElem? (i := 116) (by decide +kernel))
set_option maxRecDepth 100000 in
theorem lwm_354 : (.code yX4_usedInArms cX4_usedInArms 5 (some .long) : Cond) ∈ lw_tbl := tb_7 _ (List.mem_of_getElem? (i := 122) (by decide +kernel))
set_option maxRecDepth 100000 in
theorem lwm_355 : (.fieldLink RX4 148 "OwnedPlaces$Code" "armLabels" "[I" : Cond) ∈ lw_tbl := tb_3 _ (List.mem_of_getElem? (i := 30) (by decide +kernel))
set_option maxRecDepth 100000 in
theorem lwm_356 : (.methodLink RX4 144 yX4_usedInArms : Cond) ∈ lw_tbl := tb_7 _ (List.mem_of_getElem? (i := 119) (by decide +kernel))
set_option maxRecDepth 100000 in
theorem lwm_357 : (.instanceMethod yX4_usedInArms : Cond) ∈ lw_tbl := tb_7 _ (List.mem_of_getElem? (i := 121) (by decide +kernel))
set_option maxRecDepth 100000 in
theorem lwm_358 : (.selects RX4 yX4_usedInArms yX4_usedInArms : Cond) ∈ lw_tbl := List.mem_append_left _ (List.mem_of_getElem? (i := 109) (by decide +kernel))
set_option maxRecDepth 100000 in
theorem lwm_359 : (.constantLong RX4 142 (-1) : Cond) ∈ lw_tbl := tb_7 _ (List.mem_of_getElem? (i := 118) (by decide +kernel))
set_option maxRecDepth 100000 in
theorem lwm_360 : (.methodLink RX4 136 yX0_hasStars : Cond) ∈ lw_tbl := tb_7 _ (List.mem_of_getElem? (i := 117) (by decide +kernel))
set_option maxRecDepth 100000 in
theorem lwm_361 : (.fieldLink RX4 139 "OwnedPlaces$Code" "placeLength" "[I" : Cond) ∈ lw_tbl := tb_3 _ (List.mem_of_getElem? (i := 15) (by decide +kernel))
set_option maxRecDepth 100000 in
theorem lwm_362 : (.methodLink RX4 132 yX4_usedAhead : Cond) ∈ lw_tbl := tb_7 _ (List.mem_of_getElem? (i := 113) (by decide +kernel))
set_option maxRecDepth 100000 in
theorem lwm_363 : (.instanceMethod yX4_usedAhead : Cond) ∈ lw_tbl := tb_7 _ (List.mem_of_getElem? (i := 115) (by decide +kernel))
set_option maxRecDepth 100000 in
theorem lwm_364 : (.selects RX4 yX4_usedAhead yX4_usedAhead : Cond) ∈ lw_tbl := List.mem_append_left _ (List.mem_of_getElem? (i := 108) (by decide +kernel))
set_option maxRecDepth 100000 in
theorem lwm_365 : (.methodLink RX4 79 yX4_findUses : Cond) ∈ lw_tbl := tb_7 _ (List.mem_of_getElem? (i := 105) (by decide +kernel))
set_option maxRecDepth 100000 in
theorem lwm_366 : (.instanceMethod yX4_findUses : Cond) ∈ lw_tbl := tb_7 _ (List.mem_of_getElem? (i := 107) (by decide +kernel))
set_option maxRecDepth 100000 in
theorem lwm_367 : (.selects RX4 yX4_findUses yX4_findUses : Cond) ∈ lw_tbl := List.mem_append_left _ (List.mem_of_getElem? (i := 107) (by decide +kernel))
set_option maxRecDepth 100000 in
theorem lwm_368 : (.fieldLink RX4 22 "OwnedPlaces$Loans" "rows" "[J" : Cond) ∈ lw_tbl := tb_3 _ (List.mem_of_getElem? (i := 167) (by decide +kernel))
set_option maxRecDepth 100000 in
theorem lwm_369 : (.fieldLink RX4 25 "OwnedPlaces$Loans" "reached" "[Z" : Cond) ∈ lw_tbl := tb_3 _ (List.mem_of_getElem? (i := 168) (by decide +kernel))
set_option maxRecDepth 100000 in
theorem lwm_370 : (.code yX4_pass cX4_pass 3 none : Cond) ∈ lw_tbl := tb_7 _ (List.mem_of_getElem? (i := 126) (by decide +kernel))
set_option maxRecDepth 100000 in
theorem lwm_371 : (.fieldLink RX4 151 "OwnedPlaces$Loans" "isReached" "Z" : Cond) ∈ lw_tbl := tb_3 _ (List.mem_of_getElem? (i := 175) (by decide +kernel))
set_option maxRecDepth 100000 in
theorem lwm_372 : (.fieldLink RX4 154 "OwnedPlaces$Loans" "tempTotal" "I" : Cond) ∈ lw_tbl := tb_3 _ (List.mem_of_getElem? (i := 170) (by decide +kernel))
set_option maxRecDepth 100000 in
theorem lwm_373 : (.fieldLink RX4 157 "OwnedPlaces$Function" "variables" "I" : Cond) ∈ lw_tbl := tb_2 _ (List.mem_of_getElem? (i := 104) (by decide +kernel))
set_option maxRecDepth 100000 in
theorem lwm_374 : (.fieldLink RX4 160 "OwnedPlaces$Function" "parameters" "I" : Cond) ∈ lw_tbl := tb_2 _ (List.mem_of_getElem? (i := 86) (by decide +kernel))
set_option maxRecDepth 100000 in
theorem lwm_375 : (.fieldLink RX4 18 "OwnedPlaces$Loans" "held" "[J" : Cond) ∈ lw_tbl := tb_3 _ (List.mem_of_getElem? (i := 166) (by decide +kernel))
set_option maxRecDepth 100000 in
theorem lwm_376 : (.fieldLink RX4 42 "OwnedPlaces$Loans" "types" "LOwnedPlaces$Types;" : Cond) ∈ lw_tbl := tb_3 _ (List.mem_of_getElem? (i := 160) (by decide +kernel))
set_option maxRecDepth 100000 in
theorem lwm_377 : (.fieldLink RX4 163 "OwnedPlaces$Function" "type" "[I" : Cond) ∈ lw_tbl := tb_2 _ (List.mem_of_getElem? (i := 110) (by decide +kernel))
set_option maxRecDepth 100000 in
theorem lwm_378 : (.code yX10_isReference cX10_isReference 2 (some .boolean) : Cond) ∈ lw_tbl := tb_6 _ (List.mem_of_getElem? (i := 183) (by decide +kernel))
set_option maxRecDepth 100000 in
theorem lwm_379 : (.fieldLink RX10 9 "OwnedPlaces$Types" "kind" "[I" : Cond) ∈ lw_tbl := tb_1 _ (List.mem_of_getElem? (i := 232) (by decide +kernel))
set_option maxRecDepth 100000 in
theorem lwm_380 : (.methodLink RX4 70 yX10_isReference : Cond) ∈ lw_tbl := tb_7 _ (List.mem_of_getElem? (i := 97) (by decide +kernel))
set_option maxRecDepth 100000 in
theorem lwm_381 : (.instanceMethod yX10_isReference : Cond) ∈ lw_tbl := tb_6 _ (List.mem_of_getElem? (i := 181) (by decide +kernel))
set_option maxRecDepth 100000 in
theorem lwm_382 : (.selects RX10 yX10_isReference yX10_isReference : Cond) ∈ lw_tbl := tb_6 _ (List.mem_of_getElem? (i := 182) (by decide +kernel))
set_option maxRecDepth 100000 in
theorem lwm_383 : (.initialized RX10 : Cond) ∈ lw_tbl := tb_1 _ (List.mem_of_getElem? (i := 10) (by decide +kernel))
set_option maxRecDepth 100000 in
theorem lwm_384 : (.fieldLink RX4 166 "OwnedPlaces$Function" "parameterLife" "[I" : Cond) ∈ lw_tbl := tb_2 _ (List.mem_of_getElem? (i := 90) (by decide +kernel))
set_option maxRecDepth 100000 in
theorem lwm_385 : (.code yX4_outerLoan cX4_outerLoan 1 (some .long) : Cond) ∈ lw_tbl := tb_7 _ (List.mem_of_getElem? (i := 129) (by decide +kernel))
set_option maxRecDepth 100000 in
theorem lwm_386 : (.methodLink RX4 169 yX4_outerLoan : Cond) ∈ lw_tbl := tb_7 _ (List.mem_of_getElem? (i := 127) (by decide +kernel))
set_option maxRecDepth 100000 in
theorem lwm_387 : (.static yX4_outerLoan : Cond) ∈ lw_tbl := tb_7 _ (List.mem_of_getElem? (i := 128) (by decide +kernel))
set_option maxRecDepth 100000 in
theorem lwm_388 : (.code yX4_join cX4_join 4 none : Cond) ∈ lw_tbl := tb_7 _ (List.mem_of_getElem? (i := 133) (by decide +kernel))
set_option maxRecDepth 100000 in
theorem lwm_389 : (.methodLink RX4 172 yX4_join : Cond) ∈ lw_tbl := tb_7 _ (List.mem_of_getElem? (i := 130) (by decide +kernel))
set_option maxRecDepth 100000 in
theorem lwm_390 : (.instanceMethod yX4_join : Cond) ∈ lw_tbl := tb_7 _ (List.mem_of_getElem? (i := 132) (by decide +kernel))
set_option maxRecDepth 100000 in
theorem lwm_391 : (.selects RX4 yX4_join yX4_join : Cond) ∈ lw_tbl := List.mem_append_left _ (List.mem_of_getElem? (i := 111) (by decide +kernel))
set_option maxRecDepth 100000 in
theorem lwm_392 : (.code yX4_look cX4_look 3 none : Cond) ∈ lw_tbl := tb_7 _ (List.mem_of_getElem? (i := 137) (by decide +kernel))
set_option maxRecDepth 100000 in
theorem lwm_393 : (.code yX4_push cX4_push 3 none : Cond) ∈ lw_tbl := tb_7 _ (List.mem_of_getElem? (i := 141) (by decide +kernel))
set_option maxRecDepth 100000 in
theorem lwm_394 : (.fieldLink RX4 29 "OwnedPlaces$Loans" "temps" "[J" : Cond) ∈ lw_tbl := tb_3 _ (List.mem_of_getElem? (i := 169) (by decide +kernel))
set_option maxRecDepth 100000 in
theorem lwm_395 : (.methodLink RX4 179 yX4_push : Cond) ∈ lw_tbl := tb_7 _ (List.mem_of_getElem? (i := 138) (by decide +kernel))
set_option maxRecDepth 100000 in
theorem lwm_396 : (.instanceMethod yX4_push : Cond) ∈ lw_tbl := tb_7 _ (List.mem_of_getElem? (i := 140) (by decide +kernel))
set_option maxRecDepth 100000 in
theorem lwm_397 : (.selects RX4 yX4_push yX4_push : Cond) ∈ lw_tbl := List.mem_append_left _ (List.mem_of_getElem? (i := 113) (by decide +kernel))
set_option maxRecDepth 100000 in
theorem lwm_398 : (.code yX4_access cX4_access 7 none : Cond) ∈ lw_tbl := tb_7 _ (List.mem_of_getElem? (i := 145) (by decide +kernel))
set_option maxRecDepth 100000 in
theorem lwm_399 : (.code yX4_aliveBehind cX4_aliveBehind 5 (some .long) : Cond) ∈ lw_tbl := tb_7 _ (List.mem_of_getElem? (i := 149) (by decide +kernel))
set_option maxRecDepth 100000 in
theorem lwm_400 : (.methodLink RX4 224 yX4_aliveBehind : Cond) ∈ lw_tbl := tb_7 _ (List.mem_of_getElem? (i := 146) (by decide +kernel))
set_option maxRecDepth 100000 in
theorem lwm_401 : (.instanceMethod yX4_aliveBehind : Cond) ∈ lw_tbl := tb_7 _ (List.mem_of_getElem? (i := 148) (by decide +kernel))
set_option maxRecDepth 100000 in
theorem lwm_402 : (.selects RX4 yX4_aliveBehind yX4_aliveBehind : Cond) ∈ lw_tbl := List.mem_append_left _ (List.mem_of_getElem? (i := 115) (by decide +kernel))
set_option maxRecDepth 100000 in
theorem lwm_403 : (.code yX4_overlap cX4_overlap 5 (some .boolean) : Cond) ∈ lw_tbl := tb_7 _ (List.mem_of_getElem? (i := 153) (by decide +kernel))
set_option maxRecDepth 100000 in
theorem lwm_404 : (.methodLink RX4 246 Lib.Math.min.name : Cond) ∈ lw_tbl := tb_7 _ (List.mem_of_getElem? (i := 154) (by decide +kernel))
set_option maxRecDepth 100000 in
theorem lwm_405 : (.fieldLink RX4 252 "OwnedPlaces$Code" "placePath" "[I" : Cond) ∈ lw_tbl := tb_3 _ (List.mem_of_getElem? (i := 13) (by decide +kernel))
set_option maxRecDepth 100000 in
theorem lwm_406 : (.methodLink RX4 239 yX4_overlap : Cond) ∈ lw_tbl := tb_7 _ (List.mem_of_getElem? (i := 150) (by decide +kernel))
set_option maxRecDepth 100000 in
theorem lwm_407 : (.instanceMethod yX4_overlap : Cond) ∈ lw_tbl := tb_7 _ (List.mem_of_getElem? (i := 152) (by decide +kernel))
set_option maxRecDepth 100000 in
theorem lwm_408 : (.selects RX4 yX4_overlap yX4_overlap : Cond) ∈ lw_tbl := List.mem_append_left _ (List.mem_of_getElem? (i := 116) (by decide +kernel))
set_option maxRecDepth 100000 in
theorem lwm_409 : (.fieldLink RX4 243 "OwnedPlaces$Code" "placeWhere" "[I" : Cond) ∈ lw_tbl := tb_3 _ (List.mem_of_getElem? (i := 24) (by decide +kernel))
set_option maxRecDepth 100000 in
theorem lwm_410 : (.code yX4_tell cX4_tell 2 none : Cond) ∈ lw_tbl := tb_7 _ (List.mem_of_getElem? (i := 158) (by decide +kernel))
set_option maxRecDepth 100000 in
theorem lwm_411 : (.methodLink RX4 230 yX4_tell : Cond) ∈ lw_tbl := tb_7 _ (List.mem_of_getElem? (i := 155) (by decide +kernel))
set_option maxRecDepth 100000 in
theorem lwm_412 : (.instanceMethod yX4_tell : Cond) ∈ lw_tbl := tb_7 _ (List.mem_of_getElem? (i := 157) (by decide +kernel))
set_option maxRecDepth 100000 in
theorem lwm_413 : (.selects RX4 yX4_tell yX4_tell : Cond) ∈ lw_tbl := List.mem_append_left _ (List.mem_of_getElem? (i := 117) (by decide +kernel))
set_option maxRecDepth 100000 in
theorem lwm_414 : (.methodLink RX4 183 yX4_access : Cond) ∈ lw_tbl := tb_7 _ (List.mem_of_getElem? (i := 142) (by decide +kernel))
set_option maxRecDepth 100000 in
theorem lwm_415 : (.instanceMethod yX4_access : Cond) ∈ lw_tbl := tb_7 _ (List.mem_of_getElem? (i := 144) (by decide +kernel))
set_option maxRecDepth 100000 in
theorem lwm_416 : (.selects RX4 yX4_access yX4_access : Cond) ∈ lw_tbl := List.mem_append_left _ (List.mem_of_getElem? (i := 114) (by decide +kernel))
set_option maxRecDepth 100000 in
theorem lwm_417 : (.fieldLink RX4 187 "OwnedPlaces$Code" "placeType" "[I" : Cond) ∈ lw_tbl := tb_3 _ (List.mem_of_getElem? (i := 21) (by decide +kernel))
set_option maxRecDepth 100000 in
theorem lwm_418 : (.code yX4_borrow cX4_borrow 6 none : Cond) ∈ lw_tbl := tb_7 _ (List.mem_of_getElem? (i := 162) (by decide +kernel))
set_option maxRecDepth 100000 in
theorem lwm_419 : (.fieldLink RX4 36 "OwnedPlaces$Loans" "heldByLoan" "[J" : Cond) ∈ lw_tbl := tb_3 _ (List.mem_of_getElem? (i := 172) (by decide +kernel))
set_option maxRecDepth 100000 in
theorem lwm_420 : (.methodLink RX4 190 yX4_borrow : Cond) ∈ lw_tbl := tb_7 _ (List.mem_of_getElem? (i := 159) (by decide +kernel))
set_option maxRecDepth 100000 in
theorem lwm_421 : (.instanceMethod yX4_borrow : Cond) ∈ lw_tbl := tb_7 _ (List.mem_of_getElem? (i := 161) (by decide +kernel))
set_option maxRecDepth 100000 in
theorem lwm_422 : (.selects RX4 yX4_borrow yX4_borrow : Cond) ∈ lw_tbl := List.mem_append_left _ (List.mem_of_getElem? (i := 118) (by decide +kernel))
set_option maxRecDepth 100000 in
theorem lwm_423 : (.code yX4_flow cX4_flow 4 none : Cond) ∈ lw_tbl := tb_7 _ (List.mem_of_getElem? (i := 186) (by decide +kernel))
set_option maxRecDepth 100000 in
theorem lwm_424 : (.code yX4_send cX4_send 7 (some .boolean) : Cond) ∈ lw_tbl := tb_7 _ (List.mem_of_getElem? (i := 190) (by decide +kernel))
set_option maxRecDepth 100000 in
theorem lwm_425 : (.methodLink RX4 218 yX4_send : Cond) ∈ lw_tbl := tb_7 _ (List.mem_of_getElem? (i := 187) (by decide +kernel))
set_option maxRecDepth 100000 in
theorem lwm_426 : (.instanceMethod yX4_send : Cond) ∈ lw_tbl := tb_7 _ (List.mem_of_getElem? (i := 189) (by decide +kernel))
set_option maxRecDepth 100000 in
theorem lwm_427 : (.selects RX4 yX4_send yX4_send : Cond) ∈ lw_tbl := List.mem_append_left _ (List.mem_of_getElem? (i := 125) (by decide +kernel))
set_option maxRecDepth 100000 in
theorem lwm_428 : (.code yX4_pop cX4_pop 5 (some .long) : Cond) ∈ lw_tbl := tb_7 _ (List.mem_of_getElem? (i := 166) (by decide +kernel))
set_option maxRecDepth 100000 in
theorem lwm_429 : (.methodLink RX4 193 yX4_pop : Cond) ∈ lw_tbl := tb_7 _ (List.mem_of_getElem? (i := 163) (by decide +kernel))
set_option maxRecDepth 100000 in
theorem lwm_430 : (.instanceMethod yX4_pop : Cond) ∈ lw_tbl := tb_7 _ (List.mem_of_getElem? (i := 165) (by decide +kernel))
set_option maxRecDepth 100000 in
theorem lwm_431 : (.selects RX4 yX4_pop yX4_pop : Cond) ∈ lw_tbl := List.mem_append_left _ (List.mem_of_getElem? (i := 119) (by decide +kernel))
set_option maxRecDepth 100000 in
theorem lwm_432 : (.methodLink RX4 215 yX4_flow : Cond) ∈ lw_tbl := tb_7 _ (List.mem_of_getElem? (i := 183) (by decide +kernel))
set_option maxRecDepth 100000 in
theorem lwm_433 : (.instanceMethod yX4_flow : Cond) ∈ lw_tbl := tb_7 _ (List.mem_of_getElem? (i := 185) (by decide +kernel))
set_option maxRecDepth 100000 in
theorem lwm_434 : (.selects RX4 yX4_flow yX4_flow : Cond) ∈ lw_tbl := List.mem_append_left _ (List.mem_of_getElem? (i := 124) (by decide +kernel))
set_option maxRecDepth 100000 in
theorem lwm_435 : (.fieldLink RX4 50 "OwnedPlaces$Loans" "declared" "LOwnedPlaces$Declarations;" : Cond) ∈ lw_tbl := tb_3 _ (List.mem_of_getElem? (i := 162) (by decide +kernel))
set_option maxRecDepth 100000 in
theorem lwm_436 : (.fieldLink RX4 199 "OwnedPlaces$Declarations" "functions" "[LOwnedPlaces$Function;" : Cond) ∈ lw_tbl := tb_2 _ (List.mem_of_getElem? (i := 192) (by decide +kernel))
set_option maxRecDepth 100000 in
theorem lwm_437 : (.code yX4_call cX4_call 7 none : Cond) ∈ lw_tbl := tb_7 _ (List.mem_of_getElem? (i := 174) (by decide +kernel))
set_option maxRecDepth 100000 in
theorem lwm_438 : (.fieldLink RX4 67 "OwnedPlaces$Function" "result" "I" : Cond) ∈ lw_tbl := tb_2 _ (List.mem_of_getElem? (i := 95) (by decide +kernel))
set_option maxRecDepth 100000 in
theorem lwm_439 : (.fieldLink RX4 221 "OwnedPlaces$Function" "resultLife" "I" : Cond) ∈ lw_tbl := tb_2 _ (List.mem_of_getElem? (i := 100) (by decide +kernel))
set_option maxRecDepth 100000 in
theorem lwm_440 : (.methodLink RX4 205 yX4_call : Cond) ∈ lw_tbl := tb_7 _ (List.mem_of_getElem? (i := 171) (by decide +kernel))
set_option maxRecDepth 100000 in
theorem lwm_441 : (.instanceMethod yX4_call : Cond) ∈ lw_tbl := tb_7 _ (List.mem_of_getElem? (i := 173) (by decide +kernel))
set_option maxRecDepth 100000 in
theorem lwm_442 : (.selects RX4 yX4_call yX4_call : Cond) ∈ lw_tbl := List.mem_append_left _ (List.mem_of_getElem? (i := 121) (by decide +kernel))
set_option maxRecDepth 100000 in
theorem lwm_443 : (.code yX4_giveBack cX4_giveBack 6 none : Cond) ∈ lw_tbl := tb_7 _ (List.mem_of_getElem? (i := 182) (by decide +kernel))
set_option maxRecDepth 100000 in
theorem lwm_444 : (.fieldLink RX4 233 "OwnedPlaces$Function" "from" "[I" : Cond) ∈ lw_tbl := tb_2 _ (List.mem_of_getElem? (i := 120) (by decide +kernel))
set_option maxRecDepth 100000 in
theorem lwm_445 : (.fieldLink RX4 236 "OwnedPlaces$Function" "to" "[I" : Cond) ∈ lw_tbl := tb_2 _ (List.mem_of_getElem? (i := 122) (by decide +kernel))
set_option maxRecDepth 100000 in
theorem lwm_446 : (.fieldLink RX4 227 "OwnedPlaces$Code" "where" "[I" : Cond) ∈ lw_tbl := tb_3 _ (List.mem_of_getElem? (i := 1) (by decide +kernel))
set_option maxRecDepth 100000 in
theorem lwm_447 : (.methodLink RX4 212 yX4_giveBack : Cond) ∈ lw_tbl := tb_7 _ (List.mem_of_getElem? (i := 179) (by decide +kernel))
set_option maxRecDepth 100000 in
theorem lwm_448 : (.instanceMethod yX4_giveBack : Cond) ∈ lw_tbl := tb_7 _ (List.mem_of_getElem? (i := 181) (by decide +kernel))
set_option maxRecDepth 100000 in
theorem lwm_449 : (.selects RX4 yX4_giveBack yX4_giveBack : Cond) ∈ lw_tbl := List.mem_append_left _ (List.mem_of_getElem? (i := 123) (by decide +kernel))
set_option maxRecDepth 100000 in
theorem lwm_450 : (.code yX4_assign cX4_assign 5 none : Cond) ∈ lw_tbl := tb_7 _ (List.mem_of_getElem? (i := 170) (by decide +kernel))
set_option maxRecDepth 100000 in
theorem lwm_451 : (.methodLink RX4 196 yX4_assign : Cond) ∈ lw_tbl := tb_7 _ (List.mem_of_getElem? (i := 167) (by decide +kernel))
set_option maxRecDepth 100000 in
theorem lwm_452 : (.instanceMethod yX4_assign : Cond) ∈ lw_tbl := tb_7 _ (List.mem_of_getElem? (i := 169) (by decide +kernel))
set_option maxRecDepth 100000 in
theorem lwm_453 : (.selects RX4 yX4_assign yX4_assign : Cond) ∈ lw_tbl := List.mem_append_left _ (List.mem_of_getElem? (i := 120) (by decide +kernel))
set_option maxRecDepth 100000 in
theorem lwm_454 : (.code yX4_leave cX4_leave 3 none : Cond) ∈ lw_tbl := tb_7 _ (List.mem_of_getElem? (i := 178) (by decide +kernel))
set_option maxRecDepth 100000 in
theorem lwm_455 : (.methodLink RX4 209 yX4_leave : Cond) ∈ lw_tbl := tb_7 _ (List.mem_of_getElem? (i := 175) (by decide +kernel))
set_option maxRecDepth 100000 in
theorem lwm_456 : (.instanceMethod yX4_leave : Cond) ∈ lw_tbl := tb_7 _ (List.mem_of_getElem? (i := 177) (by decide +kernel))
set_option maxRecDepth 100000 in
theorem lwm_457 : (.selects RX4 yX4_leave yX4_leave : Cond) ∈ lw_tbl := List.mem_append_left _ (List.mem_of_getElem? (i := 122) (by decide +kernel))
set_option maxRecDepth 100000 in
theorem lwm_458 : (.methodLink RX4 176 yX4_look : Cond) ∈ lw_tbl := tb_7 _ (List.mem_of_getElem? (i := 134) (by decide +kernel))
set_option maxRecDepth 100000 in
theorem lwm_459 : (.instanceMethod yX4_look : Cond) ∈ lw_tbl := tb_7 _ (List.mem_of_getElem? (i := 136) (by decide +kernel))
set_option maxRecDepth 100000 in
theorem lwm_460 : (.selects RX4 yX4_look yX4_look : Cond) ∈ lw_tbl := List.mem_append_left _ (List.mem_of_getElem? (i := 112) (by decide +kernel))
set_option maxRecDepth 100000 in
theorem lwm_461 : (.methodLink RX4 99 yX4_pass : Cond) ∈ lw_tbl := tb_7 _ (List.mem_of_getElem? (i := 123) (by decide +kernel))
set_option maxRecDepth 100000 in
theorem lwm_462 : (.instanceMethod yX4_pass : Cond) ∈ lw_tbl := tb_7 _ (List.mem_of_getElem? (i := 125) (by decide +kernel))
set_option maxRecDepth 100000 in
theorem lwm_463 : (.selects RX4 yX4_pass yX4_pass : Cond) ∈ lw_tbl := List.mem_append_left _ (List.mem_of_getElem? (i := 110) (by decide +kernel))
set_option maxRecDepth 100000 in
theorem lwm_464 : (.methodLink RX12 183 yX4_firstFault : Cond) ∈ lw_tbl := tb_7 _ (List.mem_of_getElem? (i := 93) (by decide +kernel))
set_option maxRecDepth 100000 in
theorem lwm_465 : (.instanceMethod yX4_firstFault : Cond) ∈ lw_tbl := tb_7 _ (List.mem_of_getElem? (i := 94) (by decide +kernel))
set_option maxRecDepth 100000 in
theorem lwm_466 : (.selects RX4 yX4_firstFault yX4_firstFault : Cond) ∈ lw_tbl := tb_7 _ (List.mem_of_getElem? (i := 95) (by decide +kernel))
set_option maxRecDepth 100000 in
theorem lwm_467 : (.code yX9_read cX9_read 4 none : Cond) ∈ lw_tbl := tb_4 _ (List.mem_of_getElem? (i := 184) (by decide +kernel))
set_option maxRecDepth 100000 in
theorem lwm_468 : (.fieldLink RX9 78 "OwnedPlaces$Text" "wordHeads" "[I" : Cond) ∈ lw_tbl := tb_1 _ (List.mem_of_getElem? (i := 155) (by decide +kernel))
set_option maxRecDepth 100000 in
theorem lwm_469 : (.fieldLink RX9 48 "OwnedPlaces$Text" "heads" "[I" : Cond) ∈ lw_tbl := tb_1 _ (List.mem_of_getElem? (i := 154) (by decide +kernel))
set_option maxRecDepth 100000 in
theorem lwm_470 : (.methodLink RX9 83 arraycopyName : Cond) ∈ lw_tbl := tb_1 _ (List.mem_of_getElem? (i := 110) (by decide +kernel))
set_option maxRecDepth 100000 in
theorem lwm_471 : (.native arraycopyName : Cond) ∈ lw_tbl := tb_1 _ (List.mem_of_getElem? (i := 112) (by decide +kernel))
set_option maxRecDepth 100000 in
theorem lwm_472 : (.static arraycopyName : Cond) ∈ lw_tbl := tb_1 _ (List.mem_of_getElem? (i := 111) (by decide +kernel))
set_option maxRecDepth 100000 in
theorem lwm_473 : (.initialized "java/lang/System" : Cond) ∈ lw_tbl := tb_1 _ (List.mem_of_getElem? (i := 8) (by decide +kernel))
set_option maxRecDepth 100000 in
theorem lwm_474 : (.fieldLink RX9 89 "OwnedPlaces$Text" "nameTotal" "I" : Cond) ∈ lw_tbl := tb_1 _ (List.mem_of_getElem? (i := 147) (by decide +kernel))
set_option maxRecDepth 100000 in
theorem lwm_475 : (.code yX9_add cX9_add 4 none : Cond) ∈ lw_tbl := tb_4 _ (List.mem_of_getElem? (i := 200) (by decide +kernel))
set_option maxRecDepth 100000 in
theorem lwm_476 : (.fieldLink RX9 9 "OwnedPlaces$Text" "kinds" "[I" : Cond) ∈ lw_tbl := tb_1 _ (List.mem_of_getElem? (i := 120) (by decide +kernel))
set_option maxRecDepth 100000 in
theorem lwm_477 : (.fieldLink RX9 15 "OwnedPlaces$Text" "places" "[I" : Cond) ∈ lw_tbl := tb_1 _ (List.mem_of_getElem? (i := 123) (by decide +kernel))
set_option maxRecDepth 100000 in
theorem lwm_478 : (.fieldLink RX9 18 "OwnedPlaces$Text" "names" "[I" : Cond) ∈ lw_tbl := tb_1 _ (List.mem_of_getElem? (i := 126) (by decide +kernel))
set_option maxRecDepth 100000 in
theorem lwm_479 : (.fieldLink RX9 25 "OwnedPlaces$Text" "links" "[I" : Cond) ∈ lw_tbl := tb_1 _ (List.mem_of_getElem? (i := 131) (by decide +kernel))
set_option maxRecDepth 100000 in
theorem lwm_480 : (.methodLink RX9 102 yX9_add : Cond) ∈ lw_tbl := tb_4 _ (List.mem_of_getElem? (i := 197) (by decide +kernel))
set_option maxRecDepth 100000 in
theorem lwm_481 : (.instanceMethod yX9_add : Cond) ∈ lw_tbl := tb_4 _ (List.mem_of_getElem? (i := 199) (by decide +kernel))
set_option maxRecDepth 100000 in
theorem lwm_482 : (.selects RX9 yX9_add yX9_add : Cond) ∈ lw_tbl := List.mem_append_left _ (List.mem_of_getElem? (i := 7) (by decide +kernel))
set_option maxRecDepth 100000 in
theorem lwm_483 : (.code yX9_readToken cX9_readToken 4 (some .int) : Cond) ∈ lw_tbl := tb_4 _ (List.mem_of_getElem? (i := 188) (by decide +kernel))
set_option maxRecDepth 100000 in
theorem lwm_484 : (.code yX9_isLetter cX9_isLetter 1 (some .boolean) : Cond) ∈ lw_tbl := tb_4 _ (List.mem_of_getElem? (i := 203) (by decide +kernel))
set_option maxRecDepth 100000 in
theorem lwm_485 : (.methodLink RX9 121 yX9_isLetter : Cond) ∈ lw_tbl := tb_4 _ (List.mem_of_getElem? (i := 201) (by decide +kernel))
set_option maxRecDepth 100000 in
theorem lwm_486 : (.static yX9_isLetter : Cond) ∈ lw_tbl := tb_4 _ (List.mem_of_getElem? (i := 202) (by decide +kernel))
set_option maxRecDepth 100000 in
theorem lwm_487 : (.code yX9_isDigit cX9_isDigit 1 (some .boolean) : Cond) ∈ lw_tbl := tb_4 _ (List.mem_of_getElem? (i := 214) (by decide +kernel))
set_option maxRecDepth 100000 in
theorem lwm_488 : (.methodLink RX9 128 yX9_isDigit : Cond) ∈ lw_tbl := tb_4 _ (List.mem_of_getElem? (i := 212) (by decide +kernel))
set_option maxRecDepth 100000 in
theorem lwm_489 : (.static yX9_isDigit : Cond) ∈ lw_tbl := tb_4 _ (List.mem_of_getElem? (i := 213) (by decide +kernel))
set_option maxRecDepth 100000 in
theorem lwm_490 : (.code yX9_readSign cX9_readSign 5 (some .int) : Cond) ∈ lw_tbl := tb_4 _ (List.mem_of_getElem? (i := 228) (by decide +kernel))
set_option maxRecDepth 100000 in
theorem lwm_491 : (.code yJ0_length_8abf5 cJ0_length_8abf5 1 (some .int) : Cond) ∈ lw_tbl := tb_1 _ (List.mem_of_getElem? (i := 53) (by decide +kernel))
set_option maxRecDepth 100000 in
theorem lwm_492 : (.fieldLink RJ0 9 "java/lang/String" "value" "[B" : Cond) ∈ lw_tbl := tb_14 _ (List.mem_of_getElem? (i := 142) (by decide +kernel))
set_option maxRecDepth 100000 in
theorem lwm_493 : (.code yJ0_coder_7d493 cJ0_coder_7d493 1 (some .byte) : Cond) ∈ lw_tbl := tb_1 _ (List.mem_of_getElem? (i := 57) (by decide +kernel))
set_option maxRecDepth 100000 in
theorem lwm_494 : (.fieldLink RJ0 38 "java/lang/String" "COMPACT_STRINGS" "Z" : Cond) ∈ lw_tbl := tb_1 _ (List.mem_of_getElem? (i := 58) (by decide +kernel))
set_option maxRecDepth 100000 in
theorem lwm_495 : (.fieldLink RJ0 15 "java/lang/String" "coder" "B" : Cond) ∈ lw_tbl := tb_14 _ (List.mem_of_getElem? (i := 143) (by decide +kernel))
set_option maxRecDepth 100000 in
theorem lwm_496 : (.methodLink RJ0 335 yJ0_coder_7d493 : Cond) ∈ lw_tbl := tb_1 _ (List.mem_of_getElem? (i := 54) (by decide +kernel))
set_option maxRecDepth 100000 in
theorem lwm_497 : (.instanceMethod yJ0_coder_7d493 : Cond) ∈ lw_tbl := tb_1 _ (List.mem_of_getElem? (i := 55) (by decide +kernel))
set_option maxRecDepth 100000 in
theorem lwm_498 : (.selects RJ0 yJ0_coder_7d493 yJ0_coder_7d493 : Cond) ∈ lw_tbl := tb_1 _ (List.mem_of_getElem? (i := 56) (by decide +kernel))
set_option maxRecDepth 100000 in
theorem lwm_499 : (.methodLink RX9 59 yJ0_length_8abf5 : Cond) ∈ lw_tbl := tb_1 _ (List.mem_of_getElem? (i := 50) (by decide +kernel))
set_option maxRecDepth 100000 in
theorem lwm_500 : (.instanceMethod yJ0_length_8abf5 : Cond) ∈ lw_tbl := tb_1 _ (List.mem_of_getElem? (i := 51) (by decide +kernel))
set_option maxRecDepth 100000 in
theorem lwm_501 : (.selects RJ0 yJ0_length_8abf5 yJ0_length_8abf5 : Cond) ∈ lw_tbl := tb_1 _ (List.mem_of_getElem? (i := 52) (by decide +kernel))
set_option maxRecDepth 100000 in
theorem lwm_502 : (.code yX9_addBad cX9_addBad 3 (some .int) : Cond) ∈ lw_tbl := tb_4 _ (List.mem_of_getElem? (i := 196) (by decide +kernel))
set_option maxRecDepth 100000 in
theorem lwm_503 : (.methodLink RX9 140 yX9_addBad : Cond) ∈ lw_tbl := tb_4 _ (List.mem_of_getElem? (i := 193) (by decide +kernel))
set_option maxRecDepth 100000 in
theorem lwm_504 : (.instanceMethod yX9_addBad : Cond) ∈ lw_tbl := tb_4 _ (List.mem_of_getElem? (i := 195) (by decide +kernel))
set_option maxRecDepth 100000 in
theorem lwm_505 : (.selects RX9 yX9_addBad yX9_addBad : Cond) ∈ lw_tbl := List.mem_append_left _ (List.mem_of_getElem? (i := 6) (by decide +kernel))
set_option maxRecDepth 100000 in
theorem lwm_506 : (.code yJ0_charAt_5068e cJ0_charAt_5068e 2 (some .char) : Cond) ∈ lw_tbl := tb_1 _ (List.mem_of_getElem? (i := 63) (by decide +kernel))
set_option maxRecDepth 100000 in
theorem lwm_507 : (.code yJ0_isLatin1_aae02 cJ0_isLatin1_aae02 1 (some .boolean) : Cond) ∈ lw_tbl := tb_1 _ (List.mem_of_getElem? (i := 67) (by decide +kernel))
set_option maxRecDepth 100000 in
theorem lwm_508 : (.methodLink RJ0 492 yJ0_isLatin1_aae02 : Cond) ∈ lw_tbl := tb_1 _ (List.mem_of_getElem? (i := 64) (by decide +kernel))
set_option maxRecDepth 100000 in
theorem lwm_509 : (.instanceMethod yJ0_isLatin1_aae02 : Cond) ∈ lw_tbl := tb_1 _ (List.mem_of_getElem? (i := 65) (by decide +kernel))
set_option maxRecDepth 100000 in
theorem lwm_510 : (.selects RJ0 yJ0_isLatin1_aae02 yJ0_isLatin1_aae02 : Cond) ∈ lw_tbl := tb_1 _ (List.mem_of_getElem? (i := 66) (by decide +kernel))
set_option maxRecDepth 100000 in
theorem lwm_511 : (.code yJ1_charAt_3b067 cJ1_charAt_3b067 2 (some .char) : Cond) ∈ lw_tbl := tb_1 _ (List.mem_of_getElem? (i := 70) (by decide +kernel))
set_option maxRecDepth 100000 in
theorem lwm_512 : (.code yJ0_checkIndex_df160 cJ0_checkIndex_df160 2 none : Cond) ∈ lw_tbl := tb_1 _ (List.mem_of_getElem? (i := 73) (by decide +kernel))
set_option maxRecDepth 100000 in
theorem lwm_513 : (.fieldLink RJ0 1053 "jdk/internal/util/Preconditions" "SIOOBE_FORMATTER" "Ljava/util/function/BiFunction;" : Cond) ∈ lw_tbl := tb_1 _ (List.mem_of_getElem? (i := 74) (by decide +kernel))
set_option maxRecDepth 100000 in
theorem lwm_514 : (.code yJ3_checkIndex_8e157 cJ3_checkIndex_8e157 3 (some .int) : Cond) ∈ lw_tbl := tb_1 _ (List.mem_of_getElem? (i := 78) (by decide +kernel))
set_option maxRecDepth 100000 in
theorem lwm_515 : (.methodLink RJ0 1059 yJ3_checkIndex_8e157 : Cond) ∈ lw_tbl := tb_1 _ (List.mem_of_getElem? (i := 76) (by decide +kernel))
set_option maxRecDepth 100000 in
theorem lwm_516 : (.static yJ3_checkIndex_8e157 : Cond) ∈ lw_tbl := tb_1 _ (List.mem_of_getElem? (i := 77) (by decide +kernel))
set_option maxRecDepth 100000 in
theorem lwm_517 : (.initialized RJ3 : Cond) ∈ lw_tbl := tb_1 _ (List.mem_of_getElem? (i := 6) (by decide +kernel))
set_option maxRecDepth 100000 in
theorem lwm_518 : (.methodLink RJ1 9 yJ0_checkIndex_df160 : Cond) ∈ lw_tbl := tb_1 _ (List.mem_of_getElem? (i := 71) (by decide +kernel))
set_option maxRecDepth 100000 in
theorem lwm_519 : (.static yJ0_checkIndex_df160 : Cond) ∈ lw_tbl := tb_1 _ (List.mem_of_getElem? (i := 72) (by decide +kernel))
set_option maxRecDepth 100000 in
theorem lwm_520 : (.methodLink RJ0 495 yJ1_charAt_3b067 : Cond) ∈ lw_tbl := tb_1 _ (List.mem_of_getElem? (i := 68) (by decide +kernel))
set_option maxRecDepth 100000 in
theorem lwm_521 : (.static yJ1_charAt_3b067 : Cond) ∈ lw_tbl := tb_1 _ (List.mem_of_getElem? (i := 69) (by decide +kernel))
set_option maxRecDepth 100000 in
theorem lwm_522 : (.initialized RJ1 : Cond) ∈ lw_tbl := tb_1 _ (List.mem_of_getElem? (i := 5) (by decide +kernel))
set_option maxRecDepth 100000 in
theorem lwm_523 : (.methodLink RX9 65 yJ0_charAt_5068e : Cond) ∈ lw_tbl := tb_1 _ (List.mem_of_getElem? (i := 60) (by decide +kernel))
set_option maxRecDepth 100000 in
theorem lwm_524 : (.instanceMethod yJ0_charAt_5068e : Cond) ∈ lw_tbl := tb_1 _ (List.mem_of_getElem? (i := 61) (by decide +kernel))
set_option maxRecDepth 100000 in
theorem lwm_525 : (.selects RJ0 yJ0_charAt_5068e yJ0_charAt_5068e : Cond) ∈ lw_tbl := tb_1 _ (List.mem_of_getElem? (i := 62) (by decide +kernel))
set_option maxRecDepth 100000 in
theorem lwm_526 : (.methodLink RX9 137 yX9_readSign : Cond) ∈ lw_tbl := tb_4 _ (List.mem_of_getElem? (i := 225) (by decide +kernel))
set_option maxRecDepth 100000 in
theorem lwm_527 : (.instanceMethod yX9_readSign : Cond) ∈ lw_tbl := tb_4 _ (List.mem_of_getElem? (i := 227) (by decide +kernel))
set_option maxRecDepth 100000 in
theorem lwm_528 : (.selects RX9 yX9_readSign yX9_readSign : Cond) ∈ lw_tbl := List.mem_append_left _ (List.mem_of_getElem? (i := 12) (by decide +kernel))
set_option maxRecDepth 100000 in
theorem lwm_529 : (.code yX9_readLife cX9_readLife 6 (some .int) : Cond) ∈ lw_tbl := tb_4 _ (List.mem_of_getElem? (i := 224) (by decide +kernel))
set_option maxRecDepth 100000 in
theorem lwm_530 : (.code yX9_wordEnd cX9_wordEnd 4 (some .int) : Cond) ∈ lw_tbl := tb_4 _ (List.mem_of_getElem? (i := 211) (by decide +kernel))
set_option maxRecDepth 100000 in
theorem lwm_531 : (.methodLink RX9 143 yX9_wordEnd : Cond) ∈ lw_tbl := tb_4 _ (List.mem_of_getElem? (i := 208) (by decide +kernel))
set_option maxRecDepth 100000 in
theorem lwm_532 : (.instanceMethod yX9_wordEnd : Cond) ∈ lw_tbl := tb_4 _ (List.mem_of_getElem? (i := 210) (by decide +kernel))
set_option maxRecDepth 100000 in
theorem lwm_533 : (.selects RX9 yX9_wordEnd yX9_wordEnd : Cond) ∈ lw_tbl := List.mem_append_left _ (List.mem_of_getElem? (i := 9) (by decide +kernel))
set_option maxRecDepth 100000 in
theorem lwm_534 : (.code yX9_nameOf cX9_nameOf 8 (some .int) : Cond) ∈ lw_tbl := tb_1 _ (List.mem_of_getElem? (i := 101) (by decide +kernel))
set_option maxRecDepth 100000 in
theorem lwm_535 : (.code yX9_addName cX9_addName 7 (some .int) : Cond) ∈ lw_tbl := tb_1 _ (List.mem_of_getElem? (i := 109) (by decide +kernel))
set_option maxRecDepth 100000 in
theorem lwm_536 : (.fieldLink RX9 39 "OwnedPlaces$Text" "nameFrom" "[I" : Cond) ∈ lw_tbl := tb_1 _ (List.mem_of_getElem? (i := 151) (by decide +kernel))
set_option maxRecDepth 100000 in
theorem lwm_537 : (.fieldLink RX9 42 "OwnedPlaces$Text" "nameSize" "[I" : Cond) ∈ lw_tbl := tb_1 _ (List.mem_of_getElem? (i := 152) (by decide +kernel))
set_option maxRecDepth 100000 in
theorem lwm_538 : (.fieldLink RX9 36 "OwnedPlaces$Text" "spelled" "[B" : Cond) ∈ lw_tbl := tb_1 _ (List.mem_of_getElem? (i := 150) (by decide +kernel))
set_option maxRecDepth 100000 in
theorem lwm_539 : (.fieldLink RX9 45 "OwnedPlaces$Text" "nameNext" "[I" : Cond) ∈ lw_tbl := tb_1 _ (List.mem_of_getElem? (i := 153) (by decide +kernel))
set_option maxRecDepth 100000 in
theorem lwm_540 : (.methodLink RX9 158 yX9_addName : Cond) ∈ lw_tbl := tb_1 _ (List.mem_of_getElem? (i := 106) (by decide +kernel))
set_option maxRecDepth 100000 in
theorem lwm_541 : (.instanceMethod yX9_addName : Cond) ∈ lw_tbl := tb_1 _ (List.mem_of_getElem? (i := 108) (by decide +kernel))
set_option maxRecDepth 100000 in
theorem lwm_542 : (.selects RX9 yX9_addName yX9_addName : Cond) ∈ lw_tbl := List.mem_append_left _ (List.mem_of_getElem? (i := 2) (by decide +kernel))
set_option maxRecDepth 100000 in
theorem lwm_543 : (.code yX9_isSpelled cX9_isSpelled 6 (some .boolean) : Cond) ∈ lw_tbl := tb_1 _ (List.mem_of_getElem? (i := 105) (by decide +kernel))
set_option maxRecDepth 100000 in
theorem lwm_544 : (.methodLink RX9 154 yX9_isSpelled : Cond) ∈ lw_tbl := tb_1 _ (List.mem_of_getElem? (i := 102) (by decide +kernel))
set_option maxRecDepth 100000 in
theorem lwm_545 : (.instanceMethod yX9_isSpelled : Cond) ∈ lw_tbl := tb_1 _ (List.mem_of_getElem? (i := 104) (by decide +kernel))
set_option maxRecDepth 100000 in
theorem lwm_546 : (.selects RX9 yX9_isSpelled yX9_isSpelled : Cond) ∈ lw_tbl := List.mem_append_left _ (List.mem_of_getElem? (i := 1) (by decide +kernel))
set_option maxRecDepth 100000 in
theorem lwm_547 : (.methodLink RX9 69 yX9_nameOf : Cond) ∈ lw_tbl := tb_1 _ (List.mem_of_getElem? (i := 98) (by decide +kernel))
set_option maxRecDepth 100000 in
theorem lwm_548 : (.instanceMethod yX9_nameOf : Cond) ∈ lw_tbl := tb_1 _ (List.mem_of_getElem? (i := 100) (by decide +kernel))
set_option maxRecDepth 100000 in
theorem lwm_549 : (.selects RX9 yX9_nameOf yX9_nameOf : Cond) ∈ lw_tbl := List.mem_append_left _ (List.mem_of_getElem? (i := 0) (by decide +kernel))
set_option maxRecDepth 100000 in
theorem lwm_550 : (.methodLink RX9 134 yX9_readLife : Cond) ∈ lw_tbl := tb_4 _ (List.mem_of_getElem? (i := 221) (by decide +kernel))
set_option maxRecDepth 100000 in
theorem lwm_551 : (.instanceMethod yX9_readLife : Cond) ∈ lw_tbl := tb_4 _ (List.mem_of_getElem? (i := 223) (by decide +kernel))
set_option maxRecDepth 100000 in
theorem lwm_552 : (.selects RX9 yX9_readLife yX9_readLife : Cond) ∈ lw_tbl := List.mem_append_left _ (List.mem_of_getElem? (i := 11) (by decide +kernel))
set_option maxRecDepth 100000 in
theorem lwm_553 : (.code yX9_readNumber cX9_readNumber 8 (some .int) : Cond) ∈ lw_tbl := tb_4 _ (List.mem_of_getElem? (i := 218) (by decide +kernel))
set_option maxRecDepth 100000 in
theorem lwm_554 : (.fieldLink RX9 21 "OwnedPlaces$Text" "numbers" "[J" : Cond) ∈ lw_tbl := tb_1 _ (List.mem_of_getElem? (i := 129) (by decide +kernel))
set_option maxRecDepth 100000 in
theorem lwm_555 : (.constantLong RX9 146 9223372036854775807 : Cond) ∈ lw_tbl := tb_4 _ (List.mem_of_getElem? (i := 219) (by decide +kernel))
set_option maxRecDepth 100000 in
theorem lwm_556 : (.constantLong RX9 148 10 : Cond) ∈ lw_tbl := tb_4 _ (List.mem_of_getElem? (i := 220) (by decide +kernel))
set_option maxRecDepth 100000 in
theorem lwm_557 : (.methodLink RX9 131 yX9_readNumber : Cond) ∈ lw_tbl := tb_4 _ (List.mem_of_getElem? (i := 215) (by decide +kernel))
set_option maxRecDepth 100000 in
theorem lwm_558 : (.instanceMethod yX9_readNumber : Cond) ∈ lw_tbl := tb_4 _ (List.mem_of_getElem? (i := 217) (by decide +kernel))
set_option maxRecDepth 100000 in
theorem lwm_559 : (.selects RX9 yX9_readNumber yX9_readNumber : Cond) ∈ lw_tbl := List.mem_append_left _ (List.mem_of_getElem? (i := 10) (by decide +kernel))
set_option maxRecDepth 100000 in
theorem lwm_560 : (.code yX9_readWord cX9_readWord 5 (some .int) : Cond) ∈ lw_tbl := tb_4 _ (List.mem_of_getElem? (i := 207) (by decide +kernel))
set_option maxRecDepth 100000 in
theorem lwm_561 : (.methodLink RX9 125 yX9_readWord : Cond) ∈ lw_tbl := tb_4 _ (List.mem_of_getElem? (i := 204) (by decide +kernel))
set_option maxRecDepth 100000 in
theorem lwm_562 : (.instanceMethod yX9_readWord : Cond) ∈ lw_tbl := tb_4 _ (List.mem_of_getElem? (i := 206) (by decide +kernel))
set_option maxRecDepth 100000 in
theorem lwm_563 : (.selects RX9 yX9_readWord yX9_readWord : Cond) ∈ lw_tbl := List.mem_append_left _ (List.mem_of_getElem? (i := 8) (by decide +kernel))
set_option maxRecDepth 100000 in
theorem lwm_564 : (.code yX9_readComment cX9_readComment 5 (some .int) : Cond) ∈ lw_tbl := tb_4 _ (List.mem_of_getElem? (i := 192) (by decide +kernel))
set_option maxRecDepth 100000 in
theorem lwm_565 : (.methodLink RX9 118 yX9_readComment : Cond) ∈ lw_tbl := tb_4 _ (List.mem_of_getElem? (i := 189) (by decide +kernel))
set_option maxRecDepth 100000 in
theorem lwm_566 : (.instanceMethod yX9_readComment : Cond) ∈ lw_tbl := tb_4 _ (List.mem_of_getElem? (i := 191) (by decide +kernel))
set_option maxRecDepth 100000 in
theorem lwm_567 : (.selects RX9 yX9_readComment yX9_readComment : Cond) ∈ lw_tbl := List.mem_append_left _ (List.mem_of_getElem? (i := 5) (by decide +kernel))
set_option maxRecDepth 100000 in
theorem lwm_568 : (.methodLink RX9 98 yX9_readToken : Cond) ∈ lw_tbl := tb_4 _ (List.mem_of_getElem? (i := 185) (by decide +kernel))
set_option maxRecDepth 100000 in
theorem lwm_569 : (.instanceMethod yX9_readToken : Cond) ∈ lw_tbl := tb_4 _ (List.mem_of_getElem? (i := 187) (by decide +kernel))
set_option maxRecDepth 100000 in
theorem lwm_570 : (.selects RX9 yX9_readToken yX9_readToken : Cond) ∈ lw_tbl := List.mem_append_left _ (List.mem_of_getElem? (i := 4) (by decide +kernel))
set_option maxRecDepth 100000 in
theorem lwm_571 : (.methodLink RX12 162 yX9_read : Cond) ∈ lw_tbl := tb_4 _ (List.mem_of_getElem? (i := 181) (by decide +kernel))
set_option maxRecDepth 100000 in
theorem lwm_572 : (.instanceMethod yX9_read : Cond) ∈ lw_tbl := tb_4 _ (List.mem_of_getElem? (i := 182) (by decide +kernel))
set_option maxRecDepth 100000 in
theorem lwm_573 : (.selects RX9 yX9_read yX9_read : Cond) ∈ lw_tbl := tb_4 _ (List.mem_of_getElem? (i := 183) (by decide +kernel))
set_option maxRecDepth 100000 in
theorem lwm_574 : (.fieldLink RX12 21 "OwnedPlaces" "grammar" "LOwnedPlaces$Grammar;" : Cond) ∈ lw_tbl := tb_4 _ (List.mem_of_getElem? (i := 108) (by decide +kernel))
set_option maxRecDepth 100000 in
theorem lwm_575 : (.code yX3_program cX3_program 3 none : Cond) ∈ lw_tbl := tb_4 _ (List.mem_of_getElem? (i := 234) (by decide +kernel))
set_option maxRecDepth 100000 in
theorem lwm_576 : (.fieldLink RX3 19 "OwnedPlaces$Grammar" "total" "I" : Cond) ∈ lw_tbl := tb_1 _ (List.mem_of_getElem? (i := 205) (by decide +kernel))
set_option maxRecDepth 100000 in
theorem lwm_577 : (.fieldLink RX3 23 "OwnedPlaces$Grammar" "shapes" "I" : Cond) ∈ lw_tbl := tb_1 _ (List.mem_of_getElem? (i := 207) (by decide +kernel))
set_option maxRecDepth 100000 in
theorem lwm_578 : (.fieldLink RX3 26 "OwnedPlaces$Grammar" "functions" "I" : Cond) ∈ lw_tbl := tb_1 _ (List.mem_of_getElem? (i := 208) (by decide +kernel))
set_option maxRecDepth 100000 in
theorem lwm_579 : (.fieldLink RX3 15 "OwnedPlaces$Grammar" "text" "LOwnedPlaces$Text;" : Cond) ∈ lw_tbl := tb_1 _ (List.mem_of_getElem? (i := 202) (by decide +kernel))
set_option maxRecDepth 100000 in
theorem lwm_580 : (.code yX9_kind cX9_kind 1 (some .int) : Cond) ∈ lw_tbl := tb_4 _ (List.mem_of_getElem? (i := 238) (by decide +kernel))
set_option maxRecDepth 100000 in
theorem lwm_581 : (.methodLink RX3 29 yX9_kind : Cond) ∈ lw_tbl := tb_4 _ (List.mem_of_getElem? (i := 235) (by decide +kernel))
set_option maxRecDepth 100000 in
theorem lwm_582 : (.instanceMethod yX9_kind : Cond) ∈ lw_tbl := tb_4 _ (List.mem_of_getElem? (i := 236) (by decide +kernel))
set_option maxRecDepth 100000 in
theorem lwm_583 : (.selects RX9 yX9_kind yX9_kind : Cond) ∈ lw_tbl := tb_4 _ (List.mem_of_getElem? (i := 237) (by decide +kernel))
set_option maxRecDepth 100000 in
theorem lwm_584 : (.code yX3_function cX3_function 1 none : Cond) ∈ lw_tbl := tb_5 _ (List.mem_of_getElem? (i := 2) (by decide +kernel))
set_option maxRecDepth 100000 in
theorem lwm_585 : (.code yX3_limit cX3_limit 1 none : Cond) ∈ lw_tbl := tb_5 _ (List.mem_of_getElem? (i := 6) (by decide +kernel))
set_option maxRecDepth 100000 in
theorem lwm_586 : (.code yX9_where cX9_where 1 (some .int) : Cond) ∈ lw_tbl := tb_5 _ (List.mem_of_getElem? (i := 10) (by decide +kernel))
set_option maxRecDepth 100000 in
theorem lwm_587 : (.methodLink RX3 54 yX9_where : Cond) ∈ lw_tbl := tb_5 _ (List.mem_of_getElem? (i := 7) (by decide +kernel))
set_option maxRecDepth 100000 in
theorem lwm_588 : (.instanceMethod yX9_where : Cond) ∈ lw_tbl := tb_5 _ (List.mem_of_getElem? (i := 8) (by decide +kernel))
set_option maxRecDepth 100000 in
theorem lwm_589 : (.selects RX9 yX9_where yX9_where : Cond) ∈ lw_tbl := tb_5 _ (List.mem_of_getElem? (i := 9) (by decide +kernel))
set_option maxRecDepth 100000 in
theorem lwm_590 : (.methodLink RX3 57 yX9_fail : Cond) ∈ lw_tbl := tb_5 _ (List.mem_of_getElem? (i := 11) (by decide +kernel))
set_option maxRecDepth 100000 in
theorem lwm_591 : (.methodLink RX3 61 yX3_limit : Cond) ∈ lw_tbl := tb_5 _ (List.mem_of_getElem? (i := 3) (by decide +kernel))
set_option maxRecDepth 100000 in
theorem lwm_592 : (.instanceMethod yX3_limit : Cond) ∈ lw_tbl := tb_5 _ (List.mem_of_getElem? (i := 5) (by decide +kernel))
set_option maxRecDepth 100000 in
theorem lwm_593 : (.selects RX3 yX3_limit yX3_limit : Cond) ∈ lw_tbl := List.mem_append_left _ (List.mem_of_getElem? (i := 14) (by decide +kernel))
set_option maxRecDepth 100000 in
theorem lwm_594 : (.initialized RX3 : Cond) ∈ lw_tbl := tb_1 _ (List.mem_of_getElem? (i := 9) (by decide +kernel))
set_option maxRecDepth 100000 in
theorem lwm_595 : (.fieldLink RX3 84 "OwnedPlaces$Grammar" "variables" "I" : Cond) ∈ lw_tbl := tb_1 _ (List.mem_of_getElem? (i := 209) (by decide +kernel))
set_option maxRecDepth 100000 in
theorem lwm_596 : (.fieldLink RX3 87 "OwnedPlaces$Grammar" "borrows" "I" : Cond) ∈ lw_tbl := tb_1 _ (List.mem_of_getElem? (i := 210) (by decide +kernel))
set_option maxRecDepth 100000 in
theorem lwm_597 : (.code yX3_noteItem cX3_noteItem 1 none : Cond) ∈ lw_tbl := tb_5 _ (List.mem_of_getElem? (i := 18) (by decide +kernel))
set_option maxRecDepth 100000 in
theorem lwm_598 : (.fieldLink RX3 9 "OwnedPlaces$Grammar" "items" "[I" : Cond) ∈ lw_tbl := tb_1 _ (List.mem_of_getElem? (i := 203) (by decide +kernel))
set_option maxRecDepth 100000 in
theorem lwm_599 : (.fieldLink RX3 45 "OwnedPlaces$Text" "now" "I" : Cond) ∈ lw_tbl := tb_1 _ (List.mem_of_getElem? (i := 136) (by decide +kernel))
set_option maxRecDepth 100000 in
theorem lwm_600 : (.code yX9_step cX9_step 2 none : Cond) ∈ lw_tbl := tb_5 _ (List.mem_of_getElem? (i := 22) (by decide +kernel))
set_option maxRecDepth 100000 in
theorem lwm_601 : (.methodLink RX9 109 Lib.Math.min.name : Cond) ∈ lw_tbl := tb_5 _ (List.mem_of_getElem? (i := 23) (by decide +kernel))
set_option maxRecDepth 100000 in
theorem lwm_602 : (.methodLink RX3 48 yX9_step : Cond) ∈ lw_tbl := tb_5 _ (List.mem_of_getElem? (i := 19) (by decide +kernel))
set_option maxRecDepth 100000 in
theorem lwm_603 : (.instanceMethod yX9_step : Cond) ∈ lw_tbl := tb_5 _ (List.mem_of_getElem? (i := 20) (by decide +kernel))
set_option maxRecDepth 100000 in
theorem lwm_604 : (.selects RX9 yX9_step yX9_step : Cond) ∈ lw_tbl := tb_5 _ (List.mem_of_getElem? (i := 21) (by decide +kernel))
set_option maxRecDepth 100000 in
theorem lwm_605 : (.code yX9_need cX9_need 2 none : Cond) ∈ lw_tbl := tb_5 _ (List.mem_of_getElem? (i := 29) (by decide +kernel))
set_option maxRecDepth 100000 in
theorem lwm_606 : (.methodLink RX9 114 yX9_fail : Cond) ∈ lw_tbl := tb_5 _ (List.mem_of_getElem? (i := 30) (by decide +kernel))
set_option maxRecDepth 100000 in
theorem lwm_607 : (.methodLink RX3 51 yX9_need : Cond) ∈ lw_tbl := tb_5 _ (List.mem_of_getElem? (i := 26) (by decide +kernel))
set_option maxRecDepth 100000 in
theorem lwm_608 : (.instanceMethod yX9_need : Cond) ∈ lw_tbl := tb_5 _ (List.mem_of_getElem? (i := 27) (by decide +kernel))
set_option maxRecDepth 100000 in
theorem lwm_609 : (.selects RX9 yX9_need yX9_need : Cond) ∈ lw_tbl := tb_5 _ (List.mem_of_getElem? (i := 28) (by decide +kernel))
set_option maxRecDepth 100000 in
theorem lwm_610 : (.methodLink RX3 64 yX3_noteItem : Cond) ∈ lw_tbl := tb_5 _ (List.mem_of_getElem? (i := 15) (by decide +kernel))
set_option maxRecDepth 100000 in
theorem lwm_611 : (.instanceMethod yX3_noteItem : Cond) ∈ lw_tbl := tb_5 _ (List.mem_of_getElem? (i := 17) (by decide +kernel))
set_option maxRecDepth 100000 in
theorem lwm_612 : (.selects RX3 yX3_noteItem yX3_noteItem : Cond) ∈ lw_tbl := List.mem_append_left _ (List.mem_of_getElem? (i := 15) (by decide +kernel))
set_option maxRecDepth 100000 in
theorem lwm_613 : (.code yX9_take cX9_take 2 (some .boolean) : Cond) ∈ lw_tbl := tb_5 _ (List.mem_of_getElem? (i := 34) (by decide +kernel))
set_option maxRecDepth 100000 in
theorem lwm_614 : (.methodLink RX3 67 yX9_take : Cond) ∈ lw_tbl := tb_5 _ (List.mem_of_getElem? (i := 31) (by decide +kernel))
set_option maxRecDepth 100000 in
theorem lwm_615 : (.instanceMethod yX9_take : Cond) ∈ lw_tbl := tb_5 _ (List.mem_of_getElem? (i := 32) (by decide +kernel))
set_option maxRecDepth 100000 in
theorem lwm_616 : (.selects RX9 yX9_take yX9_take : Cond) ∈ lw_tbl := tb_5 _ (List.mem_of_getElem? (i := 33) (by decide +kernel))
set_option maxRecDepth 100000 in
theorem lwm_617 : (.code yX3_block cX3_block 3 none : Cond) ∈ lw_tbl := tb_5 _ (List.mem_of_getElem? (i := 61) (by decide +kernel))
set_option maxRecDepth 100000 in
theorem lwm_618 : (.code yX3_open cX3_open 3 (some .boolean) : Cond) ∈ lw_tbl := tb_5 _ (List.mem_of_getElem? (i := 65) (by decide +kernel))
set_option maxRecDepth 100000 in
theorem lwm_619 : (.code yX3_syntax cX3_syntax 1 none : Cond) ∈ lw_tbl := tb_5 _ (List.mem_of_getElem? (i := 57) (by decide +kernel))
set_option maxRecDepth 100000 in
theorem lwm_620 : (.methodLink RX3 42 yX3_syntax : Cond) ∈ lw_tbl := tb_5 _ (List.mem_of_getElem? (i := 54) (by decide +kernel))
set_option maxRecDepth 100000 in
theorem lwm_621 : (.instanceMethod yX3_syntax : Cond) ∈ lw_tbl := tb_5 _ (List.mem_of_getElem? (i := 56) (by decide +kernel))
set_option maxRecDepth 100000 in
theorem lwm_622 : (.selects RX3 yX3_syntax yX3_syntax : Cond) ∈ lw_tbl := List.mem_append_left _ (List.mem_of_getElem? (i := 20) (by decide +kernel))
set_option maxRecDepth 100000 in
theorem lwm_623 : (.methodLink RX3 102 yX3_open : Cond) ∈ lw_tbl := tb_5 _ (List.mem_of_getElem? (i := 62) (by decide +kernel))
set_option maxRecDepth 100000 in
theorem lwm_624 : (.instanceMethod yX3_open : Cond) ∈ lw_tbl := tb_5 _ (List.mem_of_getElem? (i := 64) (by decide +kernel))
set_option maxRecDepth 100000 in
theorem lwm_625 : (.selects RX3 yX3_open yX3_open : Cond) ∈ lw_tbl := List.mem_append_left _ (List.mem_of_getElem? (i := 22) (by decide +kernel))
set_option maxRecDepth 100000 in
theorem lwm_626 : (.methodLink RX3 106 yX3_statement : Cond) ∈ lw_tbl := tb_5 _ (List.mem_of_getElem? (i := 66) (by decide +kernel))
set_option maxRecDepth 100000 in
theorem lwm_627 : (.instanceMethod yX3_statement : Cond) ∈ lw_tbl := tb_5 _ (List.mem_of_getElem? (i := 68) (by decide +kernel))
set_option maxRecDepth 100000 in
theorem lwm_628 : (.selects RX3 yX3_statement yX3_statement : Cond) ∈ lw_tbl := List.mem_append_left _ (List.mem_of_getElem? (i := 23) (by decide +kernel))
set_option maxRecDepth 100000 in
theorem lwm_629 : (.code yX3_statement cX3_statement 2 none : Cond) ∈ lw_tbl := tb_5 _ (List.mem_of_getElem? (i := 69) (by decide +kernel))
set_option maxRecDepth 100000 in
theorem lwm_630 : (.code yX3_let cX3_let 2 none : Cond) ∈ lw_tbl := tb_5 _ (List.mem_of_getElem? (i := 73) (by decide +kernel))
set_option maxRecDepth 100000 in
theorem lwm_631 : (.code yX3_variable cX3_variable 2 none : Cond) ∈ lw_tbl := tb_5 _ (List.mem_of_getElem? (i := 46) (by decide +kernel))
set_option maxRecDepth 100000 in
theorem lwm_632 : (.methodLink RX3 99 yX3_variable : Cond) ∈ lw_tbl := tb_5 _ (List.mem_of_getElem? (i := 43) (by decide +kernel))
set_option maxRecDepth 100000 in
theorem lwm_633 : (.instanceMethod yX3_variable : Cond) ∈ lw_tbl := tb_5 _ (List.mem_of_getElem? (i := 45) (by decide +kernel))
set_option maxRecDepth 100000 in
theorem lwm_634 : (.selects RX3 yX3_variable yX3_variable : Cond) ∈ lw_tbl := List.mem_append_left _ (List.mem_of_getElem? (i := 18) (by decide +kernel))
set_option maxRecDepth 100000 in
theorem lwm_635 : (.code yX3_exp cX3_exp 2 (some .boolean) : Cond) ∈ lw_tbl := tb_5 _ (List.mem_of_getElem? (i := 77) (by decide +kernel))
set_option maxRecDepth 100000 in
theorem lwm_636 : (.code yX3_binary cX3_binary 6 (some .boolean) : Cond) ∈ lw_tbl := tb_5 _ (List.mem_of_getElem? (i := 81) (by decide +kernel))
set_option maxRecDepth 100000 in
theorem lwm_637 : (.code yX3_unary cX3_unary 4 (some .boolean) : Cond) ∈ lw_tbl := tb_5 _ (List.mem_of_getElem? (i := 85) (by decide +kernel))
set_option maxRecDepth 100000 in
theorem lwm_638 : (.methodLink RX3 136 yX3_unary : Cond) ∈ lw_tbl := tb_5 _ (List.mem_of_getElem? (i := 82) (by decide +kernel))
set_option maxRecDepth 100000 in
theorem lwm_639 : (.instanceMethod yX3_unary : Cond) ∈ lw_tbl := tb_5 _ (List.mem_of_getElem? (i := 84) (by decide +kernel))
set_option maxRecDepth 100000 in
theorem lwm_640 : (.selects RX3 yX3_unary yX3_unary : Cond) ∈ lw_tbl := List.mem_append_left _ (List.mem_of_getElem? (i := 27) (by decide +kernel))
set_option maxRecDepth 100000 in
theorem lwm_641 : (.code yX3_borrow cX3_borrow 1 none : Cond) ∈ lw_tbl := tb_5 _ (List.mem_of_getElem? (i := 113) (by decide +kernel))
set_option maxRecDepth 100000 in
theorem lwm_642 : (.methodLink RX3 127 yX3_borrow : Cond) ∈ lw_tbl := tb_5 _ (List.mem_of_getElem? (i := 110) (by decide +kernel))
set_option maxRecDepth 100000 in
theorem lwm_643 : (.instanceMethod yX3_borrow : Cond) ∈ lw_tbl := tb_5 _ (List.mem_of_getElem? (i := 112) (by decide +kernel))
set_option maxRecDepth 100000 in
theorem lwm_644 : (.selects RX3 yX3_borrow yX3_borrow : Cond) ∈ lw_tbl := List.mem_append_left _ (List.mem_of_getElem? (i := 34) (by decide +kernel))
set_option maxRecDepth 100000 in
theorem lwm_645 : (.code yX3_suffixed cX3_suffixed 4 (some .boolean) : Cond) ∈ lw_tbl := tb_5 _ (List.mem_of_getElem? (i := 89) (by decide +kernel))
set_option maxRecDepth 100000 in
theorem lwm_646 : (.code yX3_primary cX3_primary 2 (some .boolean) : Cond) ∈ lw_tbl := tb_5 _ (List.mem_of_getElem? (i := 93) (by decide +kernel))
set_option maxRecDepth 100000 in
theorem lwm_647 : (.code yX3_named cX3_named 2 (some .boolean) : Cond) ∈ lw_tbl := tb_5 _ (List.mem_of_getElem? (i := 97) (by decide +kernel))
set_option maxRecDepth 100000 in
theorem lwm_648 : (.code yX3_exps cX3_exps 6 none : Cond) ∈ lw_tbl := tb_5 _ (List.mem_of_getElem? (i := 101) (by decide +kernel))
set_option maxRecDepth 100000 in
theorem lwm_649 : (.fieldLink RX3 124 "OwnedPlaces$Text" "links" "[I" : Cond) ∈ lw_tbl := tb_1 _ (List.mem_of_getElem? (i := 133) (by decide +kernel))
set_option maxRecDepth 100000 in
theorem lwm_650 : (.methodLink RX3 118 yX3_exp : Cond) ∈ lw_tbl := tb_5 _ (List.mem_of_getElem? (i := 74) (by decide +kernel))
set_option maxRecDepth 100000 in
theorem lwm_651 : (.instanceMethod yX3_exp : Cond) ∈ lw_tbl := tb_5 _ (List.mem_of_getElem? (i := 76) (by decide +kernel))
set_option maxRecDepth 100000 in
theorem lwm_652 : (.selects RX3 yX3_exp yX3_exp : Cond) ∈ lw_tbl := List.mem_append_left _ (List.mem_of_getElem? (i := 25) (by decide +kernel))
set_option maxRecDepth 100000 in
theorem lwm_653 : (.methodLink RX3 158 yX3_exps : Cond) ∈ lw_tbl := tb_5 _ (List.mem_of_getElem? (i := 98) (by decide +kernel))
set_option maxRecDepth 100000 in
theorem lwm_654 : (.instanceMethod yX3_exps : Cond) ∈ lw_tbl := tb_5 _ (List.mem_of_getElem? (i := 100) (by decide +kernel))
set_option maxRecDepth 100000 in
theorem lwm_655 : (.selects RX3 yX3_exps yX3_exps : Cond) ∈ lw_tbl := List.mem_append_left _ (List.mem_of_getElem? (i := 31) (by decide +kernel))
set_option maxRecDepth 100000 in
theorem lwm_656 : (.methodLink RX3 149 yX3_named : Cond) ∈ lw_tbl := tb_5 _ (List.mem_of_getElem? (i := 94) (by decide +kernel))
set_option maxRecDepth 100000 in
theorem lwm_657 : (.instanceMethod yX3_named : Cond) ∈ lw_tbl := tb_5 _ (List.mem_of_getElem? (i := 96) (by decide +kernel))
set_option maxRecDepth 100000 in
theorem lwm_658 : (.selects RX3 yX3_named yX3_named : Cond) ∈ lw_tbl := List.mem_append_left _ (List.mem_of_getElem? (i := 30) (by decide +kernel))
set_option maxRecDepth 100000 in
theorem lwm_659 : (.code yX3_built cX3_built 3 none : Cond) ∈ lw_tbl := tb_5 _ (List.mem_of_getElem? (i := 109) (by decide +kernel))
set_option maxRecDepth 100000 in
theorem lwm_660 : (.methodLink RX3 155 yX3_built : Cond) ∈ lw_tbl := tb_5 _ (List.mem_of_getElem? (i := 106) (by decide +kernel))
set_option maxRecDepth 100000 in
theorem lwm_661 : (.instanceMethod yX3_built : Cond) ∈ lw_tbl := tb_5 _ (List.mem_of_getElem? (i := 108) (by decide +kernel))
set_option maxRecDepth 100000 in
theorem lwm_662 : (.selects RX3 yX3_built yX3_built : Cond) ∈ lw_tbl := List.mem_append_left _ (List.mem_of_getElem? (i := 33) (by decide +kernel))
set_option maxRecDepth 100000 in
theorem lwm_663 : (.code yX3_bracketed cX3_bracketed 3 (some .boolean) : Cond) ∈ lw_tbl := tb_5 _ (List.mem_of_getElem? (i := 105) (by decide +kernel))
set_option maxRecDepth 100000 in
theorem lwm_664 : (.methodLink RX3 152 yX3_bracketed : Cond) ∈ lw_tbl := tb_5 _ (List.mem_of_getElem? (i := 102) (by decide +kernel))
set_option maxRecDepth 100000 in
theorem lwm_665 : (.instanceMethod yX3_bracketed : Cond) ∈ lw_tbl := tb_5 _ (List.mem_of_getElem? (i := 104) (by decide +kernel))
set_option maxRecDepth 100000 in
theorem lwm_666 : (.selects RX3 yX3_bracketed yX3_bracketed : Cond) ∈ lw_tbl := List.mem_append_left _ (List.mem_of_getElem? (i := 32) (by decide +kernel))
set_option maxRecDepth 100000 in
theorem lwm_667 : (.methodLink RX3 146 yX3_primary : Cond) ∈ lw_tbl := tb_5 _ (List.mem_of_getElem? (i := 90) (by decide +kernel))
set_option maxRecDepth 100000 in
theorem lwm_668 : (.instanceMethod yX3_primary : Cond) ∈ lw_tbl := tb_5 _ (List.mem_of_getElem? (i := 92) (by decide +kernel))
set_option maxRecDepth 100000 in
theorem lwm_669 : (.selects RX3 yX3_primary yX3_primary : Cond) ∈ lw_tbl := List.mem_append_left _ (List.mem_of_getElem? (i := 29) (by decide +kernel))
set_option maxRecDepth 100000 in
theorem lwm_670 : (.methodLink RX3 143 yX3_suffixed : Cond) ∈ lw_tbl := tb_5 _ (List.mem_of_getElem? (i := 86) (by decide +kernel))
set_option maxRecDepth 100000 in
theorem lwm_671 : (.instanceMethod yX3_suffixed : Cond) ∈ lw_tbl := tb_5 _ (List.mem_of_getElem? (i := 88) (by decide +kernel))
set_option maxRecDepth 100000 in
theorem lwm_672 : (.selects RX3 yX3_suffixed yX3_suffixed : Cond) ∈ lw_tbl := List.mem_append_left _ (List.mem_of_getElem? (i := 28) (by decide +kernel))
set_option maxRecDepth 100000 in
theorem lwm_673 : (.code yX12_levelOf cX12_levelOf 1 (some .int) : Cond) ∈ lw_tbl := tb_5 _ (List.mem_of_getElem? (i := 116) (by decide +kernel))
set_option maxRecDepth 100000 in
theorem lwm_674 : (.static yX12_levelOf : Cond) ∈ lw_tbl := tb_5 _ (List.mem_of_getElem? (i := 115) (by decide +kernel))
set_option maxRecDepth 100000 in
theorem lwm_675 : (.methodLink RX3 133 yX3_binary : Cond) ∈ lw_tbl := tb_5 _ (List.mem_of_getElem? (i := 78) (by decide +kernel))
set_option maxRecDepth 100000 in
theorem lwm_676 : (.instanceMethod yX3_binary : Cond) ∈ lw_tbl := tb_5 _ (List.mem_of_getElem? (i := 80) (by decide +kernel))
set_option maxRecDepth 100000 in
theorem lwm_677 : (.selects RX3 yX3_binary yX3_binary : Cond) ∈ lw_tbl := List.mem_append_left _ (List.mem_of_getElem? (i := 26) (by decide +kernel))
set_option maxRecDepth 100000 in
theorem lwm_678 : (.code yX3_type cX3_type 4 none : Cond) ∈ lw_tbl := tb_5 _ (List.mem_of_getElem? (i := 50) (by decide +kernel))
set_option maxRecDepth 100000 in
theorem lwm_679 : (.code yX3_isPlainType cX3_isPlainType 1 (some .boolean) : Cond) ∈ lw_tbl := tb_5 _ (List.mem_of_getElem? (i := 53) (by decide +kernel))
set_option maxRecDepth 100000 in
theorem lwm_680 : (.methodLink RX3 81 yX3_isPlainType : Cond) ∈ lw_tbl := tb_5 _ (List.mem_of_getElem? (i := 51) (by decide +kernel))
set_option maxRecDepth 100000 in
theorem lwm_681 : (.static yX3_isPlainType : Cond) ∈ lw_tbl := tb_5 _ (List.mem_of_getElem? (i := 52) (by decide +kernel))
set_option maxRecDepth 100000 in
theorem lwm_682 : (.methodLink RX3 74 yX3_type : Cond) ∈ lw_tbl := tb_5 _ (List.mem_of_getElem? (i := 47) (by decide +kernel))
set_option maxRecDepth 100000 in
theorem lwm_683 : (.instanceMethod yX3_type : Cond) ∈ lw_tbl := tb_5 _ (List.mem_of_getElem? (i := 49) (by decide +kernel))
set_option maxRecDepth 100000 in
theorem lwm_684 : (.selects RX3 yX3_type yX3_type : Cond) ∈ lw_tbl := List.mem_append_left _ (List.mem_of_getElem? (i := 19) (by decide +kernel))
set_option maxRecDepth 100000 in
theorem lwm_685 : (.methodLink RX3 109 yX3_let : Cond) ∈ lw_tbl := tb_5 _ (List.mem_of_getElem? (i := 70) (by decide +kernel))
set_option maxRecDepth 100000 in
theorem lwm_686 : (.instanceMethod yX3_let : Cond) ∈ lw_tbl := tb_5 _ (List.mem_of_getElem? (i := 72) (by decide +kernel))
set_option maxRecDepth 100000 in
theorem lwm_687 : (.selects RX3 yX3_let yX3_let : Cond) ∈ lw_tbl := List.mem_append_left _ (List.mem_of_getElem? (i := 24) (by decide +kernel))
set_option maxRecDepth 100000 in
theorem lwm_688 : (.code yX3_branch cX3_branch 5 none : Cond) ∈ lw_tbl := tb_5 _ (List.mem_of_getElem? (i := 120) (by decide +kernel))
set_option maxRecDepth 100000 in
theorem lwm_689 : (.methodLink RX3 96 yX3_block : Cond) ∈ lw_tbl := tb_5 _ (List.mem_of_getElem? (i := 58) (by decide +kernel))
set_option maxRecDepth 100000 in
theorem lwm_690 : (.instanceMethod yX3_block : Cond) ∈ lw_tbl := tb_5 _ (List.mem_of_getElem? (i := 60) (by decide +kernel))
set_option maxRecDepth 100000 in
theorem lwm_691 : (.selects RX3 yX3_block yX3_block : Cond) ∈ lw_tbl := List.mem_append_left _ (List.mem_of_getElem? (i := 21) (by decide +kernel))
set_option maxRecDepth 100000 in
theorem lwm_692 : (.methodLink RX3 112 yX3_branch : Cond) ∈ lw_tbl := tb_5 _ (List.mem_of_getElem? (i := 117) (by decide +kernel))
set_option maxRecDepth 100000 in
theorem lwm_693 : (.instanceMethod yX3_branch : Cond) ∈ lw_tbl := tb_5 _ (List.mem_of_getElem? (i := 119) (by decide +kernel))
set_option maxRecDepth 100000 in
theorem lwm_694 : (.selects RX3 yX3_branch yX3_branch : Cond) ∈ lw_tbl := List.mem_append_left _ (List.mem_of_getElem? (i := 35) (by decide +kernel))
set_option maxRecDepth 100000 in
theorem lwm_695 : (.code yX3_match cX3_match 5 none : Cond) ∈ lw_tbl := tb_5 _ (List.mem_of_getElem? (i := 124) (by decide +kernel))
set_option maxRecDepth 100000 in
theorem lwm_696 : (.methodLink RX3 130 yX3_arm : Cond) ∈ lw_tbl := tb_5 _ (List.mem_of_getElem? (i := 125) (by decide +kernel))
set_option maxRecDepth 100000 in
theorem lwm_697 : (.instanceMethod yX3_arm : Cond) ∈ lw_tbl := tb_5 _ (List.mem_of_getElem? (i := 127) (by decide +kernel))
set_option maxRecDepth 100000 in
theorem lwm_698 : (.selects RX3 yX3_arm yX3_arm : Cond) ∈ lw_tbl := List.mem_append_left _ (List.mem_of_getElem? (i := 37) (by decide +kernel))
set_option maxRecDepth 100000 in
theorem lwm_699 : (.methodLink RX3 115 yX3_match : Cond) ∈ lw_tbl := tb_5 _ (List.mem_of_getElem? (i := 121) (by decide +kernel))
