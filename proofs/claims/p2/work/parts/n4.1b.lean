set_option maxRecDepth 100000 in
theorem lwm_700 : (.instanceMethod yX3_match : Cond) ∈ lw_tbl := tb_5 _ (List.mem_of_getElem? (i := 123) (by decide +kernel))
set_option maxRecDepth 100000 in
theorem lwm_701 : (.selects RX3 yX3_match yX3_match : Cond) ∈ lw_tbl := List.mem_append_left _ (List.mem_of_getElem? (i := 36) (by decide +kernel))
set_option maxRecDepth 100000 in
theorem lwm_702 : (.code yX3_assignment cX3_assignment 4 none : Cond) ∈ lw_tbl := tb_5 _ (List.mem_of_getElem? (i := 132) (by decide +kernel))
set_option maxRecDepth 100000 in
theorem lwm_703 : (.methodLink RX3 121 yX3_assignment : Cond) ∈ lw_tbl := tb_5 _ (List.mem_of_getElem? (i := 129) (by decide +kernel))
set_option maxRecDepth 100000 in
theorem lwm_704 : (.instanceMethod yX3_assignment : Cond) ∈ lw_tbl := tb_5 _ (List.mem_of_getElem? (i := 131) (by decide +kernel))
set_option maxRecDepth 100000 in
theorem lwm_705 : (.selects RX3 yX3_assignment yX3_assignment : Cond) ∈ lw_tbl := List.mem_append_left _ (List.mem_of_getElem? (i := 38) (by decide +kernel))
set_option maxRecDepth 100000 in
theorem lwm_706 : (.code yX3_arm cX3_arm 5 none : Cond) ∈ lw_tbl := tb_5 _ (List.mem_of_getElem? (i := 128) (by decide +kernel))
set_option maxRecDepth 100000 in
theorem lwm_707 : (.code yX3_parameters cX3_parameters 2 none : Cond) ∈ lw_tbl := tb_5 _ (List.mem_of_getElem? (i := 42) (by decide +kernel))
set_option maxRecDepth 100000 in
theorem lwm_708 : (.methodLink RX3 93 yX3_parameters : Cond) ∈ lw_tbl := tb_5 _ (List.mem_of_getElem? (i := 39) (by decide +kernel))
set_option maxRecDepth 100000 in
theorem lwm_709 : (.instanceMethod yX3_parameters : Cond) ∈ lw_tbl := tb_5 _ (List.mem_of_getElem? (i := 41) (by decide +kernel))
set_option maxRecDepth 100000 in
theorem lwm_710 : (.selects RX3 yX3_parameters yX3_parameters : Cond) ∈ lw_tbl := List.mem_append_left _ (List.mem_of_getElem? (i := 17) (by decide +kernel))
set_option maxRecDepth 100000 in
theorem lwm_711 : (.code yX3_lives cX3_lives 2 none : Cond) ∈ lw_tbl := tb_5 _ (List.mem_of_getElem? (i := 38) (by decide +kernel))
set_option maxRecDepth 100000 in
theorem lwm_712 : (.methodLink RX3 90 yX3_lives : Cond) ∈ lw_tbl := tb_5 _ (List.mem_of_getElem? (i := 35) (by decide +kernel))
set_option maxRecDepth 100000 in
theorem lwm_713 : (.instanceMethod yX3_lives : Cond) ∈ lw_tbl := tb_5 _ (List.mem_of_getElem? (i := 37) (by decide +kernel))
set_option maxRecDepth 100000 in
theorem lwm_714 : (.selects RX3 yX3_lives yX3_lives : Cond) ∈ lw_tbl := List.mem_append_left _ (List.mem_of_getElem? (i := 16) (by decide +kernel))
set_option maxRecDepth 100000 in
theorem lwm_715 : (.methodLink RX3 35 yX3_function : Cond) ∈ lw_tbl := tb_4 _ (List.mem_of_getElem? (i := 239) (by decide +kernel))
set_option maxRecDepth 100000 in
theorem lwm_716 : (.instanceMethod yX3_function : Cond) ∈ lw_tbl := tb_5 _ (List.mem_of_getElem? (i := 1) (by decide +kernel))
set_option maxRecDepth 100000 in
theorem lwm_717 : (.selects RX3 yX3_function yX3_function : Cond) ∈ lw_tbl := List.mem_append_left _ (List.mem_of_getElem? (i := 13) (by decide +kernel))
set_option maxRecDepth 100000 in
theorem lwm_718 : (.code yX3_shape cX3_shape 3 none : Cond) ∈ lw_tbl := tb_5 _ (List.mem_of_getElem? (i := 136) (by decide +kernel))
set_option maxRecDepth 100000 in
theorem lwm_719 : (.code yX3_variantParts cX3_variantParts 2 none : Cond) ∈ lw_tbl := tb_5 _ (List.mem_of_getElem? (i := 140) (by decide +kernel))
set_option maxRecDepth 100000 in
theorem lwm_720 : (.code yX3_startsType cX3_startsType 2 (some .boolean) : Cond) ∈ lw_tbl := tb_5 _ (List.mem_of_getElem? (i := 144) (by decide +kernel))
set_option maxRecDepth 100000 in
theorem lwm_721 : (.methodLink RX3 77 yX3_startsType : Cond) ∈ lw_tbl := tb_5 _ (List.mem_of_getElem? (i := 141) (by decide +kernel))
set_option maxRecDepth 100000 in
theorem lwm_722 : (.instanceMethod yX3_startsType : Cond) ∈ lw_tbl := tb_5 _ (List.mem_of_getElem? (i := 143) (by decide +kernel))
set_option maxRecDepth 100000 in
theorem lwm_723 : (.selects RX3 yX3_startsType yX3_startsType : Cond) ∈ lw_tbl := List.mem_append_left _ (List.mem_of_getElem? (i := 41) (by decide +kernel))
set_option maxRecDepth 100000 in
theorem lwm_724 : (.methodLink RX3 71 yX3_variantParts : Cond) ∈ lw_tbl := tb_5 _ (List.mem_of_getElem? (i := 137) (by decide +kernel))
set_option maxRecDepth 100000 in
theorem lwm_725 : (.instanceMethod yX3_variantParts : Cond) ∈ lw_tbl := tb_5 _ (List.mem_of_getElem? (i := 139) (by decide +kernel))
set_option maxRecDepth 100000 in
theorem lwm_726 : (.selects RX3 yX3_variantParts yX3_variantParts : Cond) ∈ lw_tbl := List.mem_append_left _ (List.mem_of_getElem? (i := 40) (by decide +kernel))
set_option maxRecDepth 100000 in
theorem lwm_727 : (.methodLink RX3 38 yX3_shape : Cond) ∈ lw_tbl := tb_5 _ (List.mem_of_getElem? (i := 133) (by decide +kernel))
set_option maxRecDepth 100000 in
theorem lwm_728 : (.instanceMethod yX3_shape : Cond) ∈ lw_tbl := tb_5 _ (List.mem_of_getElem? (i := 135) (by decide +kernel))
set_option maxRecDepth 100000 in
theorem lwm_729 : (.selects RX3 yX3_shape yX3_shape : Cond) ∈ lw_tbl := List.mem_append_left _ (List.mem_of_getElem? (i := 39) (by decide +kernel))
set_option maxRecDepth 100000 in
theorem lwm_730 : (.methodLink RX12 165 yX3_program : Cond) ∈ lw_tbl := tb_4 _ (List.mem_of_getElem? (i := 231) (by decide +kernel))
set_option maxRecDepth 100000 in
theorem lwm_731 : (.instanceMethod yX3_program : Cond) ∈ lw_tbl := tb_4 _ (List.mem_of_getElem? (i := 232) (by decide +kernel))
set_option maxRecDepth 100000 in
theorem lwm_732 : (.selects RX3 yX3_program yX3_program : Cond) ∈ lw_tbl := tb_4 _ (List.mem_of_getElem? (i := 233) (by decide +kernel))
set_option maxRecDepth 100000 in
theorem lwm_733 : (.code yX1_read cX1_read 3 none : Cond) ∈ lw_tbl := tb_5 _ (List.mem_of_getElem? (i := 148) (by decide +kernel))
set_option maxRecDepth 100000 in
theorem lwm_734 : (.fieldLink RX1 30 "OwnedPlaces$Declarations" "total" "I" : Cond) ∈ lw_tbl := tb_2 _ (List.mem_of_getElem? (i := 194) (by decide +kernel))
set_option maxRecDepth 100000 in
theorem lwm_735 : (.fieldLink RX1 25 "OwnedPlaces$Declarations" "types" "LOwnedPlaces$Types;" : Cond) ∈ lw_tbl := tb_2 _ (List.mem_of_getElem? (i := 188) (by decide +kernel))
set_option maxRecDepth 100000 in
theorem lwm_736 : (.code yX10_clear cX10_clear 2 none : Cond) ∈ lw_tbl := tb_5 _ (List.mem_of_getElem? (i := 152) (by decide +kernel))
set_option maxRecDepth 100000 in
theorem lwm_737 : (.fieldLink RX10 55 "OwnedPlaces$Types" "shapes" "I" : Cond) ∈ lw_tbl := tb_2 _ (List.mem_of_getElem? (i := 11) (by decide +kernel))
set_option maxRecDepth 100000 in
theorem lwm_738 : (.fieldLink RX10 59 "OwnedPlaces$Types" "total" "I" : Cond) ∈ lw_tbl := tb_2 _ (List.mem_of_getElem? (i := 10) (by decide +kernel))
set_option maxRecDepth 100000 in
theorem lwm_739 : (.fieldLink RX10 21 "OwnedPlaces$Types" "drops" "[Z" : Cond) ∈ lw_tbl := tb_2 _ (List.mem_of_getElem? (i := 5) (by decide +kernel))
set_option maxRecDepth 100000 in
theorem lwm_740 : (.code yX10_make cX10_make 4 (some .int) : Cond) ∈ lw_tbl := tb_5 _ (List.mem_of_getElem? (i := 156) (by decide +kernel))
set_option maxRecDepth 100000 in
theorem lwm_741 : (.fieldLink RX10 15 "OwnedPlaces$Types" "of" "[I" : Cond) ∈ lw_tbl := tb_1 _ (List.mem_of_getElem? (i := 236) (by decide +kernel))
set_option maxRecDepth 100000 in
theorem lwm_742 : (.fieldLink RX10 18 "OwnedPlaces$Types" "size" "[I" : Cond) ∈ lw_tbl := tb_1 _ (List.mem_of_getElem? (i := 239) (by decide +kernel))
set_option maxRecDepth 100000 in
theorem lwm_743 : (.fieldLink RX10 25 "OwnedPlaces$Types" "boxes" "[I" : Cond) ∈ lw_tbl := tb_2 _ (List.mem_of_getElem? (i := 7) (by decide +kernel))
set_option maxRecDepth 100000 in
theorem lwm_744 : (.fieldLink RX10 28 "OwnedPlaces$Types" "shared" "[I" : Cond) ∈ lw_tbl := tb_2 _ (List.mem_of_getElem? (i := 8) (by decide +kernel))
set_option maxRecDepth 100000 in
theorem lwm_745 : (.fieldLink RX10 31 "OwnedPlaces$Types" "unique" "[I" : Cond) ∈ lw_tbl := tb_2 _ (List.mem_of_getElem? (i := 9) (by decide +kernel))
set_option maxRecDepth 100000 in
theorem lwm_746 : (.methodLink RX10 62 yX10_make : Cond) ∈ lw_tbl := tb_5 _ (List.mem_of_getElem? (i := 153) (by decide +kernel))
set_option maxRecDepth 100000 in
theorem lwm_747 : (.instanceMethod yX10_make : Cond) ∈ lw_tbl := tb_5 _ (List.mem_of_getElem? (i := 155) (by decide +kernel))
set_option maxRecDepth 100000 in
theorem lwm_748 : (.selects RX10 yX10_make yX10_make : Cond) ∈ lw_tbl := List.mem_append_left _ (List.mem_of_getElem? (i := 42) (by decide +kernel))
set_option maxRecDepth 100000 in
theorem lwm_749 : (.methodLink RX1 34 yX10_clear : Cond) ∈ lw_tbl := tb_5 _ (List.mem_of_getElem? (i := 149) (by decide +kernel))
set_option maxRecDepth 100000 in
theorem lwm_750 : (.instanceMethod yX10_clear : Cond) ∈ lw_tbl := tb_5 _ (List.mem_of_getElem? (i := 150) (by decide +kernel))
set_option maxRecDepth 100000 in
theorem lwm_751 : (.selects RX10 yX10_clear yX10_clear : Cond) ∈ lw_tbl := tb_5 _ (List.mem_of_getElem? (i := 151) (by decide +kernel))
set_option maxRecDepth 100000 in
theorem lwm_752 : (.fieldLink RX1 17 "OwnedPlaces$Declarations" "meanings" "[I" : Cond) ∈ lw_tbl := tb_2 _ (List.mem_of_getElem? (i := 199) (by decide +kernel))
set_option maxRecDepth 100000 in
theorem lwm_753 : (.fieldLink RX1 21 "OwnedPlaces$Declarations" "text" "LOwnedPlaces$Text;" : Cond) ∈ lw_tbl := tb_2 _ (List.mem_of_getElem? (i := 187) (by decide +kernel))
set_option maxRecDepth 100000 in
theorem lwm_754 : (.fieldLink RX1 39 "OwnedPlaces$Text" "nameTotal" "I" : Cond) ∈ lw_tbl := tb_1 _ (List.mem_of_getElem? (i := 146) (by decide +kernel))
set_option maxRecDepth 100000 in
theorem lwm_755 : (.methodLink RX1 44 yJ7_fill_fda19 : Cond) ∈ lw_tbl := tb_5 _ (List.mem_of_getElem? (i := 157) (by decide +kernel))
set_option maxRecDepth 100000 in
theorem lwm_756 : (.fieldLink RX1 50 "OwnedPlaces$Grammar" "total" "I" : Cond) ∈ lw_tbl := tb_1 _ (List.mem_of_getElem? (i := 206) (by decide +kernel))
set_option maxRecDepth 100000 in
theorem lwm_757 : (.fieldLink RX1 53 "OwnedPlaces$Text" "fault" "I" : Cond) ∈ lw_tbl := tb_1 _ (List.mem_of_getElem? (i := 141) (by decide +kernel))
set_option maxRecDepth 100000 in
theorem lwm_758 : (.fieldLink RX1 56 "OwnedPlaces$Grammar" "items" "[I" : Cond) ∈ lw_tbl := tb_1 _ (List.mem_of_getElem? (i := 204) (by decide +kernel))
set_option maxRecDepth 100000 in
theorem lwm_759 : (.code yX1_readName cX1_readName 3 none : Cond) ∈ lw_tbl := tb_5 _ (List.mem_of_getElem? (i := 166) (by decide +kernel))
set_option maxRecDepth 100000 in
theorem lwm_760 : (.fieldLink RX1 82 "OwnedPlaces$Text" "names" "[I" : Cond) ∈ lw_tbl := tb_1 _ (List.mem_of_getElem? (i := 127) (by decide +kernel))
set_option maxRecDepth 100000 in
theorem lwm_761 : (.fieldLink RX1 85 "OwnedPlaces$Text" "places" "[I" : Cond) ∈ lw_tbl := tb_1 _ (List.mem_of_getElem? (i := 125) (by decide +kernel))
set_option maxRecDepth 100000 in
theorem lwm_762 : (.methodLink RX1 88 yX9_fail : Cond) ∈ lw_tbl := tb_5 _ (List.mem_of_getElem? (i := 167) (by decide +kernel))
set_option maxRecDepth 100000 in
theorem lwm_763 : (.fieldLink RX1 92 "OwnedPlaces$Text" "kinds" "[I" : Cond) ∈ lw_tbl := tb_1 _ (List.mem_of_getElem? (i := 121) (by decide +kernel))
set_option maxRecDepth 100000 in
theorem lwm_764 : (.fieldLink RX1 11 "OwnedPlaces$Declarations" "functions" "[LOwnedPlaces$Function;" : Cond) ∈ lw_tbl := tb_2 _ (List.mem_of_getElem? (i := 189) (by decide +kernel))
set_option maxRecDepth 100000 in
theorem lwm_765 : (.code yX2_begin cX2_begin 2 none : Cond) ∈ lw_tbl := tb_5 _ (List.mem_of_getElem? (i := 171) (by decide +kernel))
set_option maxRecDepth 100000 in
theorem lwm_766 : (.fieldLink RX2 37 "OwnedPlaces$Function" "token" "I" : Cond) ∈ lw_tbl := tb_2 _ (List.mem_of_getElem? (i := 75) (by decide +kernel))
set_option maxRecDepth 100000 in
theorem lwm_767 : (.fieldLink RX2 41 "OwnedPlaces$Function" "lives" "I" : Cond) ∈ lw_tbl := tb_2 _ (List.mem_of_getElem? (i := 79) (by decide +kernel))
set_option maxRecDepth 100000 in
theorem lwm_768 : (.fieldLink RX2 44 "OwnedPlaces$Function" "parameters" "I" : Cond) ∈ lw_tbl := tb_2 _ (List.mem_of_getElem? (i := 83) (by decide +kernel))
set_option maxRecDepth 100000 in
theorem lwm_769 : (.fieldLink RX2 47 "OwnedPlaces$Function" "result" "I" : Cond) ∈ lw_tbl := tb_2 _ (List.mem_of_getElem? (i := 94) (by decide +kernel))
set_option maxRecDepth 100000 in
theorem lwm_770 : (.fieldLink RX2 50 "OwnedPlaces$Function" "resultLife" "I" : Cond) ∈ lw_tbl := tb_2 _ (List.mem_of_getElem? (i := 98) (by decide +kernel))
set_option maxRecDepth 100000 in
theorem lwm_771 : (.fieldLink RX2 53 "OwnedPlaces$Function" "variables" "I" : Cond) ∈ lw_tbl := tb_2 _ (List.mem_of_getElem? (i := 101) (by decide +kernel))
set_option maxRecDepth 100000 in
theorem lwm_772 : (.fieldLink RX2 56 "OwnedPlaces$Function" "cells" "I" : Cond) ∈ lw_tbl := tb_2 _ (List.mem_of_getElem? (i := 123) (by decide +kernel))
set_option maxRecDepth 100000 in
theorem lwm_773 : (.fieldLink RX2 59 "OwnedPlaces$Function" "borrows" "I" : Cond) ∈ lw_tbl := tb_2 _ (List.mem_of_getElem? (i := 140) (by decide +kernel))
set_option maxRecDepth 100000 in
theorem lwm_774 : (.methodLink RX1 95 yX2_begin : Cond) ∈ lw_tbl := tb_5 _ (List.mem_of_getElem? (i := 168) (by decide +kernel))
set_option maxRecDepth 100000 in
theorem lwm_775 : (.instanceMethod yX2_begin : Cond) ∈ lw_tbl := tb_5 _ (List.mem_of_getElem? (i := 169) (by decide +kernel))
set_option maxRecDepth 100000 in
theorem lwm_776 : (.selects RX2 yX2_begin yX2_begin : Cond) ∈ lw_tbl := tb_5 _ (List.mem_of_getElem? (i := 170) (by decide +kernel))
set_option maxRecDepth 100000 in
theorem lwm_777 : (.initialized RX2 : Cond) ∈ lw_tbl := tb_1 _ (List.mem_of_getElem? (i := 12) (by decide +kernel))
set_option maxRecDepth 100000 in
theorem lwm_778 : (.code yX10_addShape cX10_addShape 4 (some .int) : Cond) ∈ lw_tbl := tb_5 _ (List.mem_of_getElem? (i := 175) (by decide +kernel))
set_option maxRecDepth 100000 in
theorem lwm_779 : (.fieldLink RX10 34 "OwnedPlaces$Types" "shapeToken" "[I" : Cond) ∈ lw_tbl := tb_2 _ (List.mem_of_getElem? (i := 13) (by decide +kernel))
set_option maxRecDepth 100000 in
theorem lwm_780 : (.fieldLink RX10 37 "OwnedPlaces$Types" "variants" "[I" : Cond) ∈ lw_tbl := tb_2 _ (List.mem_of_getElem? (i := 15) (by decide +kernel))
set_option maxRecDepth 100000 in
theorem lwm_781 : (.methodLink RX1 98 yX10_addShape : Cond) ∈ lw_tbl := tb_5 _ (List.mem_of_getElem? (i := 172) (by decide +kernel))
set_option maxRecDepth 100000 in
theorem lwm_782 : (.instanceMethod yX10_addShape : Cond) ∈ lw_tbl := tb_5 _ (List.mem_of_getElem? (i := 173) (by decide +kernel))
set_option maxRecDepth 100000 in
theorem lwm_783 : (.selects RX10 yX10_addShape yX10_addShape : Cond) ∈ lw_tbl := tb_5 _ (List.mem_of_getElem? (i := 174) (by decide +kernel))
set_option maxRecDepth 100000 in
theorem lwm_784 : (.methodLink RX1 59 yX1_readName : Cond) ∈ lw_tbl := tb_5 _ (List.mem_of_getElem? (i := 163) (by decide +kernel))
set_option maxRecDepth 100000 in
theorem lwm_785 : (.instanceMethod yX1_readName : Cond) ∈ lw_tbl := tb_5 _ (List.mem_of_getElem? (i := 165) (by decide +kernel))
set_option maxRecDepth 100000 in
theorem lwm_786 : (.selects RX1 yX1_readName yX1_readName : Cond) ∈ lw_tbl := List.mem_append_left _ (List.mem_of_getElem? (i := 43) (by decide +kernel))
set_option maxRecDepth 100000 in
theorem lwm_787 : (.initialized RX1 : Cond) ∈ lw_tbl := tb_1 _ (List.mem_of_getElem? (i := 11) (by decide +kernel))
set_option maxRecDepth 100000 in
theorem lwm_788 : (.code yX1_readItem cX1_readItem 3 none : Cond) ∈ lw_tbl := tb_5 _ (List.mem_of_getElem? (i := 179) (by decide +kernel))
set_option maxRecDepth 100000 in
theorem lwm_789 : (.fieldLink RX1 102 "OwnedPlaces$Text" "now" "I" : Cond) ∈ lw_tbl := tb_1 _ (List.mem_of_getElem? (i := 139) (by decide +kernel))
set_option maxRecDepth 100000 in
theorem lwm_790 : (.methodLink RX1 105 yX9_step : Cond) ∈ lw_tbl := tb_5 _ (List.mem_of_getElem? (i := 180) (by decide +kernel))
set_option maxRecDepth 100000 in
theorem lwm_791 : (.fieldLink RX1 108 "OwnedPlaces$Declarations" "function" "LOwnedPlaces$Function;" : Cond) ∈ lw_tbl := tb_2 _ (List.mem_of_getElem? (i := 200) (by decide +kernel))
set_option maxRecDepth 100000 in
theorem lwm_792 : (.code yX1_readFunction cX1_readFunction 1 none : Cond) ∈ lw_tbl := tb_5 _ (List.mem_of_getElem? (i := 184) (by decide +kernel))
set_option maxRecDepth 100000 in
theorem lwm_793 : (.methodLink RX1 137 yX9_take : Cond) ∈ lw_tbl := tb_5 _ (List.mem_of_getElem? (i := 185) (by decide +kernel))
set_option maxRecDepth 100000 in
theorem lwm_794 : (.code yX1_readParameters cX1_readParameters 4 none : Cond) ∈ lw_tbl := tb_5 _ (List.mem_of_getElem? (i := 199) (by decide +kernel))
set_option maxRecDepth 100000 in
theorem lwm_795 : (.methodLink RX1 124 yX9_kind : Cond) ∈ lw_tbl := tb_5 _ (List.mem_of_getElem? (i := 190) (by decide +kernel))
set_option maxRecDepth 100000 in
theorem lwm_796 : (.code yX2_find cX2_find 3 (some .int) : Cond) ∈ lw_tbl := tb_5 _ (List.mem_of_getElem? (i := 203) (by decide +kernel))
set_option maxRecDepth 100000 in
theorem lwm_797 : (.fieldLink RX2 18 "OwnedPlaces$Function" "name" "[I" : Cond) ∈ lw_tbl := tb_2 _ (List.mem_of_getElem? (i := 106) (by decide +kernel))
set_option maxRecDepth 100000 in
theorem lwm_798 : (.fieldLink RX2 34 "OwnedPlaces$Function" "to" "[I" : Cond) ∈ lw_tbl := tb_2 _ (List.mem_of_getElem? (i := 121) (by decide +kernel))
set_option maxRecDepth 100000 in
theorem lwm_799 : (.constant RX2 62 1073741824 : Cond) ∈ lw_tbl := tb_5 _ (List.mem_of_getElem? (i := 204) (by decide +kernel))
set_option maxRecDepth 100000 in
theorem lwm_800 : (.methodLink RX1 175 yX2_find : Cond) ∈ lw_tbl := tb_5 _ (List.mem_of_getElem? (i := 200) (by decide +kernel))
set_option maxRecDepth 100000 in
theorem lwm_801 : (.instanceMethod yX2_find : Cond) ∈ lw_tbl := tb_5 _ (List.mem_of_getElem? (i := 201) (by decide +kernel))
set_option maxRecDepth 100000 in
theorem lwm_802 : (.selects RX2 yX2_find yX2_find : Cond) ∈ lw_tbl := tb_5 _ (List.mem_of_getElem? (i := 202) (by decide +kernel))
set_option maxRecDepth 100000 in
theorem lwm_803 : (.code yX1_readType cX1_readType 7 (some .int) : Cond) ∈ lw_tbl := tb_5 _ (List.mem_of_getElem? (i := 208) (by decide +kernel))
set_option maxRecDepth 100000 in
theorem lwm_804 : (.methodLink RX1 130 yX9_where : Cond) ∈ lw_tbl := tb_5 _ (List.mem_of_getElem? (i := 195) (by decide +kernel))
set_option maxRecDepth 100000 in
theorem lwm_805 : (.fieldLink RX1 156 "OwnedPlaces$Declarations" "life" "I" : Cond) ∈ lw_tbl := tb_2 _ (List.mem_of_getElem? (i := 201) (by decide +kernel))
set_option maxRecDepth 100000 in
theorem lwm_806 : (.code yX1_readReference cX1_readReference 7 (some .int) : Cond) ∈ lw_tbl := tb_5 _ (List.mem_of_getElem? (i := 212) (by decide +kernel))
set_option maxRecDepth 100000 in
theorem lwm_807 : (.methodLink RX1 78 yX1_readType : Cond) ∈ lw_tbl := tb_5 _ (List.mem_of_getElem? (i := 205) (by decide +kernel))
set_option maxRecDepth 100000 in
theorem lwm_808 : (.instanceMethod yX1_readType : Cond) ∈ lw_tbl := tb_5 _ (List.mem_of_getElem? (i := 207) (by decide +kernel))
set_option maxRecDepth 100000 in
theorem lwm_809 : (.selects RX1 yX1_readType yX1_readType : Cond) ∈ lw_tbl := List.mem_append_left _ (List.mem_of_getElem? (i := 48) (by decide +kernel))
set_option maxRecDepth 100000 in
theorem lwm_810 : (.code yX10_boxOf cX10_boxOf 2 (some .int) : Cond) ∈ lw_tbl := tb_5 _ (List.mem_of_getElem? (i := 224) (by decide +kernel))
set_option maxRecDepth 100000 in
theorem lwm_811 : (.methodLink RX1 194 yX10_boxOf : Cond) ∈ lw_tbl := tb_5 _ (List.mem_of_getElem? (i := 221) (by decide +kernel))
set_option maxRecDepth 100000 in
theorem lwm_812 : (.instanceMethod yX10_boxOf : Cond) ∈ lw_tbl := tb_5 _ (List.mem_of_getElem? (i := 222) (by decide +kernel))
set_option maxRecDepth 100000 in
theorem lwm_813 : (.selects RX10 yX10_boxOf yX10_boxOf : Cond) ∈ lw_tbl := tb_5 _ (List.mem_of_getElem? (i := 223) (by decide +kernel))
set_option maxRecDepth 100000 in
theorem lwm_814 : (.code yX1_namedType cX1_namedType 3 (some .int) : Cond) ∈ lw_tbl := tb_5 _ (List.mem_of_getElem? (i := 228) (by decide +kernel))
set_option maxRecDepth 100000 in
theorem lwm_815 : (.methodLink RX1 197 yX1_namedType : Cond) ∈ lw_tbl := tb_5 _ (List.mem_of_getElem? (i := 225) (by decide +kernel))
set_option maxRecDepth 100000 in
theorem lwm_816 : (.instanceMethod yX1_namedType : Cond) ∈ lw_tbl := tb_5 _ (List.mem_of_getElem? (i := 227) (by decide +kernel))
set_option maxRecDepth 100000 in
theorem lwm_817 : (.selects RX1 yX1_namedType yX1_namedType : Cond) ∈ lw_tbl := List.mem_append_left _ (List.mem_of_getElem? (i := 51) (by decide +kernel))
set_option maxRecDepth 100000 in
theorem lwm_818 : (.code yX10_referenceTo cX10_referenceTo 4 (some .int) : Cond) ∈ lw_tbl := tb_5 _ (List.mem_of_getElem? (i := 220) (by decide +kernel))
set_option maxRecDepth 100000 in
theorem lwm_819 : (.methodLink RX1 203 yX10_referenceTo : Cond) ∈ lw_tbl := tb_5 _ (List.mem_of_getElem? (i := 217) (by decide +kernel))
set_option maxRecDepth 100000 in
theorem lwm_820 : (.instanceMethod yX10_referenceTo : Cond) ∈ lw_tbl := tb_5 _ (List.mem_of_getElem? (i := 218) (by decide +kernel))
set_option maxRecDepth 100000 in
theorem lwm_821 : (.selects RX10 yX10_referenceTo yX10_referenceTo : Cond) ∈ lw_tbl := tb_5 _ (List.mem_of_getElem? (i := 219) (by decide +kernel))
set_option maxRecDepth 100000 in
theorem lwm_822 : (.code yX1_readLife cX1_readLife 3 none : Cond) ∈ lw_tbl := tb_5 _ (List.mem_of_getElem? (i := 216) (by decide +kernel))
set_option maxRecDepth 100000 in
theorem lwm_823 : (.code yX2_lifeOf cX2_lifeOf 3 (some .int) : Cond) ∈ lw_tbl := tb_5 _ (List.mem_of_getElem? (i := 194) (by decide +kernel))
set_option maxRecDepth 100000 in
theorem lwm_824 : (.fieldLink RX2 9 "OwnedPlaces$Function" "lifeName" "[I" : Cond) ∈ lw_tbl := tb_2 _ (List.mem_of_getElem? (i := 81) (by decide +kernel))
set_option maxRecDepth 100000 in
theorem lwm_825 : (.methodLink RX1 165 yX2_lifeOf : Cond) ∈ lw_tbl := tb_5 _ (List.mem_of_getElem? (i := 191) (by decide +kernel))
set_option maxRecDepth 100000 in
theorem lwm_826 : (.instanceMethod yX2_lifeOf : Cond) ∈ lw_tbl := tb_5 _ (List.mem_of_getElem? (i := 192) (by decide +kernel))
set_option maxRecDepth 100000 in
theorem lwm_827 : (.selects RX2 yX2_lifeOf yX2_lifeOf : Cond) ∈ lw_tbl := tb_5 _ (List.mem_of_getElem? (i := 193) (by decide +kernel))
set_option maxRecDepth 100000 in
theorem lwm_828 : (.methodLink RX1 200 yX1_readLife : Cond) ∈ lw_tbl := tb_5 _ (List.mem_of_getElem? (i := 213) (by decide +kernel))
set_option maxRecDepth 100000 in
theorem lwm_829 : (.instanceMethod yX1_readLife : Cond) ∈ lw_tbl := tb_5 _ (List.mem_of_getElem? (i := 215) (by decide +kernel))
set_option maxRecDepth 100000 in
theorem lwm_830 : (.selects RX1 yX1_readLife yX1_readLife : Cond) ∈ lw_tbl := List.mem_append_left _ (List.mem_of_getElem? (i := 50) (by decide +kernel))
set_option maxRecDepth 100000 in
theorem lwm_831 : (.methodLink RX1 191 yX1_readReference : Cond) ∈ lw_tbl := tb_5 _ (List.mem_of_getElem? (i := 209) (by decide +kernel))
set_option maxRecDepth 100000 in
theorem lwm_832 : (.instanceMethod yX1_readReference : Cond) ∈ lw_tbl := tb_5 _ (List.mem_of_getElem? (i := 211) (by decide +kernel))
set_option maxRecDepth 100000 in
theorem lwm_833 : (.selects RX1 yX1_readReference yX1_readReference : Cond) ∈ lw_tbl := List.mem_append_left _ (List.mem_of_getElem? (i := 49) (by decide +kernel))
set_option maxRecDepth 100000 in
theorem lwm_834 : (.fieldLink RX1 178 "OwnedPlaces$Function" "type" "[I" : Cond) ∈ lw_tbl := tb_2 _ (List.mem_of_getElem? (i := 111) (by decide +kernel))
set_option maxRecDepth 100000 in
theorem lwm_835 : (.code yX2_declare cX2_declare 5 (some .int) : Cond) ∈ lw_tbl := tb_5 _ (List.mem_of_getElem? (i := 232) (by decide +kernel))
set_option maxRecDepth 100000 in
theorem lwm_836 : (.fieldLink RX2 21 "OwnedPlaces$Function" "type" "[I" : Cond) ∈ lw_tbl := tb_2 _ (List.mem_of_getElem? (i := 107) (by decide +kernel))
set_option maxRecDepth 100000 in
theorem lwm_837 : (.fieldLink RX2 24 "OwnedPlaces$Function" "mutable" "[Z" : Cond) ∈ lw_tbl := tb_2 _ (List.mem_of_getElem? (i := 113) (by decide +kernel))
set_option maxRecDepth 100000 in
theorem lwm_838 : (.fieldLink RX2 28 "OwnedPlaces$Function" "offset" "[I" : Cond) ∈ lw_tbl := tb_2 _ (List.mem_of_getElem? (i := 116) (by decide +kernel))
set_option maxRecDepth 100000 in
theorem lwm_839 : (.fieldLink RX2 31 "OwnedPlaces$Function" "from" "[I" : Cond) ∈ lw_tbl := tb_2 _ (List.mem_of_getElem? (i := 118) (by decide +kernel))
set_option maxRecDepth 100000 in
theorem lwm_840 : (.methodLink RX1 181 yX2_declare : Cond) ∈ lw_tbl := tb_5 _ (List.mem_of_getElem? (i := 229) (by decide +kernel))
set_option maxRecDepth 100000 in
theorem lwm_841 : (.instanceMethod yX2_declare : Cond) ∈ lw_tbl := tb_5 _ (List.mem_of_getElem? (i := 230) (by decide +kernel))
set_option maxRecDepth 100000 in
theorem lwm_842 : (.selects RX2 yX2_declare yX2_declare : Cond) ∈ lw_tbl := tb_5 _ (List.mem_of_getElem? (i := 231) (by decide +kernel))
set_option maxRecDepth 100000 in
theorem lwm_843 : (.fieldLink RX1 185 "OwnedPlaces$Function" "parameterLife" "[I" : Cond) ∈ lw_tbl := tb_2 _ (List.mem_of_getElem? (i := 91) (by decide +kernel))
set_option maxRecDepth 100000 in
theorem lwm_844 : (.fieldLink RX1 188 "OwnedPlaces$Function" "parameters" "I" : Cond) ∈ lw_tbl := tb_2 _ (List.mem_of_getElem? (i := 87) (by decide +kernel))
set_option maxRecDepth 100000 in
theorem lwm_845 : (.methodLink RX1 150 yX1_readParameters : Cond) ∈ lw_tbl := tb_5 _ (List.mem_of_getElem? (i := 196) (by decide +kernel))
set_option maxRecDepth 100000 in
theorem lwm_846 : (.instanceMethod yX1_readParameters : Cond) ∈ lw_tbl := tb_5 _ (List.mem_of_getElem? (i := 198) (by decide +kernel))
set_option maxRecDepth 100000 in
theorem lwm_847 : (.selects RX1 yX1_readParameters yX1_readParameters : Cond) ∈ lw_tbl := List.mem_append_left _ (List.mem_of_getElem? (i := 47) (by decide +kernel))
set_option maxRecDepth 100000 in
theorem lwm_848 : (.fieldLink RX1 162 "OwnedPlaces$Function" "body" "I" : Cond) ∈ lw_tbl := tb_2 _ (List.mem_of_getElem? (i := 78) (by decide +kernel))
set_option maxRecDepth 100000 in
theorem lwm_849 : (.fieldLink RX1 153 "OwnedPlaces$Function" "result" "I" : Cond) ∈ lw_tbl := tb_2 _ (List.mem_of_getElem? (i := 97) (by decide +kernel))
set_option maxRecDepth 100000 in
theorem lwm_850 : (.fieldLink RX1 159 "OwnedPlaces$Function" "resultLife" "I" : Cond) ∈ lw_tbl := tb_2 _ (List.mem_of_getElem? (i := 99) (by decide +kernel))
set_option maxRecDepth 100000 in
theorem lwm_851 : (.code yX1_readLives cX1_readLives 3 none : Cond) ∈ lw_tbl := tb_5 _ (List.mem_of_getElem? (i := 189) (by decide +kernel))
set_option maxRecDepth 100000 in
theorem lwm_852 : (.fieldLink RX1 169 "OwnedPlaces$Function" "lifeName" "[I" : Cond) ∈ lw_tbl := tb_2 _ (List.mem_of_getElem? (i := 82) (by decide +kernel))
set_option maxRecDepth 100000 in
theorem lwm_853 : (.fieldLink RX1 172 "OwnedPlaces$Function" "lives" "I" : Cond) ∈ lw_tbl := tb_2 _ (List.mem_of_getElem? (i := 80) (by decide +kernel))
set_option maxRecDepth 100000 in
theorem lwm_854 : (.methodLink RX1 147 yX1_readLives : Cond) ∈ lw_tbl := tb_5 _ (List.mem_of_getElem? (i := 186) (by decide +kernel))
set_option maxRecDepth 100000 in
theorem lwm_855 : (.instanceMethod yX1_readLives : Cond) ∈ lw_tbl := tb_5 _ (List.mem_of_getElem? (i := 188) (by decide +kernel))
set_option maxRecDepth 100000 in
theorem lwm_856 : (.selects RX1 yX1_readLives yX1_readLives : Cond) ∈ lw_tbl := List.mem_append_left _ (List.mem_of_getElem? (i := 46) (by decide +kernel))
set_option maxRecDepth 100000 in
theorem lwm_857 : (.methodLink RX1 112 yX1_readFunction : Cond) ∈ lw_tbl := tb_5 _ (List.mem_of_getElem? (i := 181) (by decide +kernel))
set_option maxRecDepth 100000 in
theorem lwm_858 : (.instanceMethod yX1_readFunction : Cond) ∈ lw_tbl := tb_5 _ (List.mem_of_getElem? (i := 183) (by decide +kernel))
set_option maxRecDepth 100000 in
theorem lwm_859 : (.selects RX1 yX1_readFunction yX1_readFunction : Cond) ∈ lw_tbl := List.mem_append_left _ (List.mem_of_getElem? (i := 45) (by decide +kernel))
set_option maxRecDepth 100000 in
theorem lwm_860 : (.methodLink RX1 63 yX1_readItem : Cond) ∈ lw_tbl := tb_5 _ (List.mem_of_getElem? (i := 176) (by decide +kernel))
set_option maxRecDepth 100000 in
theorem lwm_861 : (.instanceMethod yX1_readItem : Cond) ∈ lw_tbl := tb_5 _ (List.mem_of_getElem? (i := 178) (by decide +kernel))
set_option maxRecDepth 100000 in
theorem lwm_862 : (.selects RX1 yX1_readItem yX1_readItem : Cond) ∈ lw_tbl := List.mem_append_left _ (List.mem_of_getElem? (i := 44) (by decide +kernel))
set_option maxRecDepth 100000 in
theorem lwm_863 : (.code yX1_readEnum cX1_readEnum 4 none : Cond) ∈ lw_tbl := tb_6 _ (List.mem_of_getElem? (i := 12) (by decide +kernel))
set_option maxRecDepth 100000 in
theorem lwm_864 : (.code yX10_variantOf cX10_variantOf 4 (some .int) : Cond) ∈ lw_tbl := tb_6 _ (List.mem_of_getElem? (i := 16) (by decide +kernel))
set_option maxRecDepth 100000 in
theorem lwm_865 : (.fieldLink RX10 40 "OwnedPlaces$Types" "variantName" "[I" : Cond) ∈ lw_tbl := tb_2 _ (List.mem_of_getElem? (i := 17) (by decide +kernel))
set_option maxRecDepth 100000 in
theorem lwm_866 : (.methodLink RX1 141 yX10_variantOf : Cond) ∈ lw_tbl := tb_6 _ (List.mem_of_getElem? (i := 13) (by decide +kernel))
set_option maxRecDepth 100000 in
theorem lwm_867 : (.instanceMethod yX10_variantOf : Cond) ∈ lw_tbl := tb_6 _ (List.mem_of_getElem? (i := 14) (by decide +kernel))
set_option maxRecDepth 100000 in
theorem lwm_868 : (.selects RX10 yX10_variantOf yX10_variantOf : Cond) ∈ lw_tbl := tb_6 _ (List.mem_of_getElem? (i := 15) (by decide +kernel))
set_option maxRecDepth 100000 in
theorem lwm_869 : (.code yX10_addVariant cX10_addVariant 4 (some .int) : Cond) ∈ lw_tbl := tb_6 _ (List.mem_of_getElem? (i := 0) (by decide +kernel))
set_option maxRecDepth 100000 in
theorem lwm_870 : (.fieldLink RX10 43 "OwnedPlaces$Types" "parts" "[I" : Cond) ∈ lw_tbl := tb_2 _ (List.mem_of_getElem? (i := 18) (by decide +kernel))
set_option maxRecDepth 100000 in
theorem lwm_871 : (.methodLink RX1 121 yX10_addVariant : Cond) ∈ lw_tbl := tb_5 _ (List.mem_of_getElem? (i := 237) (by decide +kernel))
set_option maxRecDepth 100000 in
theorem lwm_872 : (.instanceMethod yX10_addVariant : Cond) ∈ lw_tbl := tb_5 _ (List.mem_of_getElem? (i := 238) (by decide +kernel))
set_option maxRecDepth 100000 in
theorem lwm_873 : (.selects RX10 yX10_addVariant yX10_addVariant : Cond) ∈ lw_tbl := tb_5 _ (List.mem_of_getElem? (i := 239) (by decide +kernel))
set_option maxRecDepth 100000 in
theorem lwm_874 : (.code yX1_readParts cX1_readParts 3 none : Cond) ∈ lw_tbl := tb_6 _ (List.mem_of_getElem? (i := 20) (by decide +kernel))
set_option maxRecDepth 100000 in
theorem lwm_875 : (.code yX10_addPart cX10_addPart 5 none : Cond) ∈ lw_tbl := tb_6 _ (List.mem_of_getElem? (i := 8) (by decide +kernel))
set_option maxRecDepth 100000 in
theorem lwm_876 : (.fieldLink RX10 46 "OwnedPlaces$Types" "partName" "[I" : Cond) ∈ lw_tbl := tb_2 _ (List.mem_of_getElem? (i := 21) (by decide +kernel))
set_option maxRecDepth 100000 in
theorem lwm_877 : (.fieldLink RX10 49 "OwnedPlaces$Types" "partType" "[I" : Cond) ∈ lw_tbl := tb_2 _ (List.mem_of_getElem? (i := 22) (by decide +kernel))
set_option maxRecDepth 100000 in
theorem lwm_878 : (.methodLink RX1 133 yX10_addPart : Cond) ∈ lw_tbl := tb_6 _ (List.mem_of_getElem? (i := 5) (by decide +kernel))
set_option maxRecDepth 100000 in
theorem lwm_879 : (.instanceMethod yX10_addPart : Cond) ∈ lw_tbl := tb_6 _ (List.mem_of_getElem? (i := 6) (by decide +kernel))
set_option maxRecDepth 100000 in
theorem lwm_880 : (.selects RX10 yX10_addPart yX10_addPart : Cond) ∈ lw_tbl := tb_6 _ (List.mem_of_getElem? (i := 7) (by decide +kernel))
set_option maxRecDepth 100000 in
theorem lwm_881 : (.methodLink RX1 144 yX1_readParts : Cond) ∈ lw_tbl := tb_6 _ (List.mem_of_getElem? (i := 17) (by decide +kernel))
set_option maxRecDepth 100000 in
theorem lwm_882 : (.instanceMethod yX1_readParts : Cond) ∈ lw_tbl := tb_6 _ (List.mem_of_getElem? (i := 19) (by decide +kernel))
set_option maxRecDepth 100000 in
theorem lwm_883 : (.selects RX1 yX1_readParts yX1_readParts : Cond) ∈ lw_tbl := List.mem_append_left _ (List.mem_of_getElem? (i := 54) (by decide +kernel))
set_option maxRecDepth 100000 in
theorem lwm_884 : (.methodLink RX1 118 yX1_readEnum : Cond) ∈ lw_tbl := tb_6 _ (List.mem_of_getElem? (i := 9) (by decide +kernel))
set_option maxRecDepth 100000 in
theorem lwm_885 : (.instanceMethod yX1_readEnum : Cond) ∈ lw_tbl := tb_6 _ (List.mem_of_getElem? (i := 11) (by decide +kernel))
set_option maxRecDepth 100000 in
theorem lwm_886 : (.selects RX1 yX1_readEnum yX1_readEnum : Cond) ∈ lw_tbl := List.mem_append_left _ (List.mem_of_getElem? (i := 53) (by decide +kernel))
set_option maxRecDepth 100000 in
theorem lwm_887 : (.code yX1_readStruct cX1_readStruct 5 none : Cond) ∈ lw_tbl := tb_5 _ (List.mem_of_getElem? (i := 236) (by decide +kernel))
set_option maxRecDepth 100000 in
theorem lwm_888 : (.code yX10_partOf cX10_partOf 4 (some .int) : Cond) ∈ lw_tbl := tb_6 _ (List.mem_of_getElem? (i := 4) (by decide +kernel))
set_option maxRecDepth 100000 in
theorem lwm_889 : (.methodLink RX1 127 yX10_partOf : Cond) ∈ lw_tbl := tb_6 _ (List.mem_of_getElem? (i := 1) (by decide +kernel))
set_option maxRecDepth 100000 in
theorem lwm_890 : (.instanceMethod yX10_partOf : Cond) ∈ lw_tbl := tb_6 _ (List.mem_of_getElem? (i := 2) (by decide +kernel))
set_option maxRecDepth 100000 in
theorem lwm_891 : (.selects RX10 yX10_partOf yX10_partOf : Cond) ∈ lw_tbl := tb_6 _ (List.mem_of_getElem? (i := 3) (by decide +kernel))
set_option maxRecDepth 100000 in
theorem lwm_892 : (.methodLink RX1 115 yX1_readStruct : Cond) ∈ lw_tbl := tb_5 _ (List.mem_of_getElem? (i := 233) (by decide +kernel))
set_option maxRecDepth 100000 in
theorem lwm_893 : (.instanceMethod yX1_readStruct : Cond) ∈ lw_tbl := tb_5 _ (List.mem_of_getElem? (i := 235) (by decide +kernel))
set_option maxRecDepth 100000 in
theorem lwm_894 : (.selects RX1 yX1_readStruct yX1_readStruct : Cond) ∈ lw_tbl := List.mem_append_left _ (List.mem_of_getElem? (i := 52) (by decide +kernel))
set_option maxRecDepth 100000 in
theorem lwm_895 : (.code yX10_measure cX10_measure 3 none : Cond) ∈ lw_tbl := tb_6 _ (List.mem_of_getElem? (i := 24) (by decide +kernel))
set_option maxRecDepth 100000 in
theorem lwm_896 : (.code yX10_measureShape cX10_measureShape 10 none : Cond) ∈ lw_tbl := tb_6 _ (List.mem_of_getElem? (i := 28) (by decide +kernel))
set_option maxRecDepth 100000 in
theorem lwm_897 : (.code yX10_rowOf cX10_rowOf 3 (some .int) : Cond) ∈ lw_tbl := tb_6 _ (List.mem_of_getElem? (i := 32) (by decide +kernel))
set_option maxRecDepth 100000 in
theorem lwm_898 : (.methodLink RX10 70 yX10_rowOf : Cond) ∈ lw_tbl := tb_6 _ (List.mem_of_getElem? (i := 29) (by decide +kernel))
set_option maxRecDepth 100000 in
theorem lwm_899 : (.instanceMethod yX10_rowOf : Cond) ∈ lw_tbl := tb_6 _ (List.mem_of_getElem? (i := 30) (by decide +kernel))
set_option maxRecDepth 100000 in
theorem lwm_900 : (.selects RX10 yX10_rowOf yX10_rowOf : Cond) ∈ lw_tbl := tb_6 _ (List.mem_of_getElem? (i := 31) (by decide +kernel))
set_option maxRecDepth 100000 in
theorem lwm_901 : (.methodLink RX10 78 Lib.Math.max.name : Cond) ∈ lw_tbl := tb_6 _ (List.mem_of_getElem? (i := 34) (by decide +kernel))
set_option maxRecDepth 100000 in
theorem lwm_902 : (.static Lib.Math.max.name : Cond) ∈ lw_tbl := tb_6 _ (List.mem_of_getElem? (i := 35) (by decide +kernel))
set_option maxRecDepth 100000 in
theorem lwm_903 : (.code Lib.Math.max.name Lib.Math.max.code 2 (some .int) : Cond) ∈ lw_tbl := tb_6 _ (List.mem_of_getElem? (i := 36) (by decide +kernel))
set_option maxRecDepth 100000 in
theorem lwm_904 : (.fieldLink RX10 52 "OwnedPlaces$Types" "partOffset" "[I" : Cond) ∈ lw_tbl := tb_2 _ (List.mem_of_getElem? (i := 25) (by decide +kernel))
set_option maxRecDepth 100000 in
theorem lwm_905 : (.methodLink RX10 73 Lib.Math.min.name : Cond) ∈ lw_tbl := tb_6 _ (List.mem_of_getElem? (i := 33) (by decide +kernel))
set_option maxRecDepth 100000 in
theorem lwm_906 : (.methodLink RX10 66 yX10_measureShape : Cond) ∈ lw_tbl := tb_6 _ (List.mem_of_getElem? (i := 25) (by decide +kernel))
set_option maxRecDepth 100000 in
theorem lwm_907 : (.instanceMethod yX10_measureShape : Cond) ∈ lw_tbl := tb_6 _ (List.mem_of_getElem? (i := 27) (by decide +kernel))
set_option maxRecDepth 100000 in
theorem lwm_908 : (.selects RX10 yX10_measureShape yX10_measureShape : Cond) ∈ lw_tbl := List.mem_append_left _ (List.mem_of_getElem? (i := 55) (by decide +kernel))
set_option maxRecDepth 100000 in
theorem lwm_909 : (.methodLink RX1 66 yX10_measure : Cond) ∈ lw_tbl := tb_6 _ (List.mem_of_getElem? (i := 21) (by decide +kernel))
set_option maxRecDepth 100000 in
theorem lwm_910 : (.instanceMethod yX10_measure : Cond) ∈ lw_tbl := tb_6 _ (List.mem_of_getElem? (i := 22) (by decide +kernel))
set_option maxRecDepth 100000 in
theorem lwm_911 : (.selects RX10 yX10_measure yX10_measure : Cond) ∈ lw_tbl := tb_6 _ (List.mem_of_getElem? (i := 23) (by decide +kernel))
set_option maxRecDepth 100000 in
theorem lwm_912 : (.code yX1_checkSizes cX1_checkSizes 3 none : Cond) ∈ lw_tbl := tb_6 _ (List.mem_of_getElem? (i := 40) (by decide +kernel))
set_option maxRecDepth 100000 in
theorem lwm_913 : (.fieldLink RX1 207 "OwnedPlaces$Types" "shapes" "I" : Cond) ∈ lw_tbl := tb_2 _ (List.mem_of_getElem? (i := 12) (by decide +kernel))
set_option maxRecDepth 100000 in
theorem lwm_914 : (.fieldLink RX1 210 "OwnedPlaces$Types" "size" "[I" : Cond) ∈ lw_tbl := tb_2 _ (List.mem_of_getElem? (i := 4) (by decide +kernel))
set_option maxRecDepth 100000 in
theorem lwm_915 : (.fieldLink RX1 213 "OwnedPlaces$Types" "shapeToken" "[I" : Cond) ∈ lw_tbl := tb_2 _ (List.mem_of_getElem? (i := 14) (by decide +kernel))
set_option maxRecDepth 100000 in
theorem lwm_916 : (.methodLink RX1 69 yX1_checkSizes : Cond) ∈ lw_tbl := tb_6 _ (List.mem_of_getElem? (i := 37) (by decide +kernel))
set_option maxRecDepth 100000 in
theorem lwm_917 : (.instanceMethod yX1_checkSizes : Cond) ∈ lw_tbl := tb_6 _ (List.mem_of_getElem? (i := 39) (by decide +kernel))
set_option maxRecDepth 100000 in
theorem lwm_918 : (.selects RX1 yX1_checkSizes yX1_checkSizes : Cond) ∈ lw_tbl := List.mem_append_left _ (List.mem_of_getElem? (i := 56) (by decide +kernel))
set_option maxRecDepth 100000 in
theorem lwm_919 : (.code yX1_checkMain cX1_checkMain 2 none : Cond) ∈ lw_tbl := tb_6 _ (List.mem_of_getElem? (i := 44) (by decide +kernel))
set_option maxRecDepth 100000 in
theorem lwm_920 : (.code yX1_functionOf cX1_functionOf 2 (some .int) : Cond) ∈ lw_tbl := tb_6 _ (List.mem_of_getElem? (i := 48) (by decide +kernel))
set_option maxRecDepth 100000 in
theorem lwm_921 : (.methodLink RX1 216 yX1_functionOf : Cond) ∈ lw_tbl := tb_6 _ (List.mem_of_getElem? (i := 45) (by decide +kernel))
set_option maxRecDepth 100000 in
theorem lwm_922 : (.instanceMethod yX1_functionOf : Cond) ∈ lw_tbl := tb_6 _ (List.mem_of_getElem? (i := 46) (by decide +kernel))
set_option maxRecDepth 100000 in
theorem lwm_923 : (.selects RX1 yX1_functionOf yX1_functionOf : Cond) ∈ lw_tbl := tb_6 _ (List.mem_of_getElem? (i := 47) (by decide +kernel))
set_option maxRecDepth 100000 in
theorem lwm_924 : (.fieldLink RX1 219 "OwnedPlaces$Declarations" "main" "I" : Cond) ∈ lw_tbl := tb_2 _ (List.mem_of_getElem? (i := 198) (by decide +kernel))
set_option maxRecDepth 100000 in
theorem lwm_925 : (.fieldLink RX1 222 "OwnedPlaces$Function" "token" "I" : Cond) ∈ lw_tbl := tb_2 _ (List.mem_of_getElem? (i := 76) (by decide +kernel))
set_option maxRecDepth 100000 in
theorem lwm_926 : (.methodLink RX1 72 yX1_checkMain : Cond) ∈ lw_tbl := tb_6 _ (List.mem_of_getElem? (i := 41) (by decide +kernel))
set_option maxRecDepth 100000 in
theorem lwm_927 : (.instanceMethod yX1_checkMain : Cond) ∈ lw_tbl := tb_6 _ (List.mem_of_getElem? (i := 43) (by decide +kernel))
set_option maxRecDepth 100000 in
theorem lwm_928 : (.selects RX1 yX1_checkMain yX1_checkMain : Cond) ∈ lw_tbl := List.mem_append_left _ (List.mem_of_getElem? (i := 57) (by decide +kernel))
set_option maxRecDepth 100000 in
theorem lwm_929 : (.methodLink RX12 168 yX1_read : Cond) ∈ lw_tbl := tb_5 _ (List.mem_of_getElem? (i := 145) (by decide +kernel))
set_option maxRecDepth 100000 in
theorem lwm_930 : (.instanceMethod yX1_read : Cond) ∈ lw_tbl := tb_5 _ (List.mem_of_getElem? (i := 146) (by decide +kernel))
set_option maxRecDepth 100000 in
theorem lwm_931 : (.selects RX1 yX1_read yX1_read : Cond) ∈ lw_tbl := tb_5 _ (List.mem_of_getElem? (i := 147) (by decide +kernel))
set_option maxRecDepth 100000 in
theorem lwm_932 : (.fieldLink RX12 53 "OwnedPlaces" "typing" "LOwnedPlaces$Typing;" : Cond) ∈ lw_tbl := tb_4 _ (List.mem_of_getElem? (i := 112) (by decide +kernel))
set_option maxRecDepth 100000 in
theorem lwm_933 : (.code yX11_program cX11_program 2 none : Cond) ∈ lw_tbl := tb_6 _ (List.mem_of_getElem? (i := 52) (by decide +kernel))
set_option maxRecDepth 100000 in
theorem lwm_934 : (.fieldLink RX11 23 "OwnedPlaces$Typing" "code" "LOwnedPlaces$Code;" : Cond) ∈ lw_tbl := tb_3 _ (List.mem_of_getElem? (i := 81) (by decide +kernel))
set_option maxRecDepth 100000 in
theorem lwm_935 : (.code yX0_clear cX0_clear 1 none : Cond) ∈ lw_tbl := tb_6 _ (List.mem_of_getElem? (i := 56) (by decide +kernel))
set_option maxRecDepth 100000 in
theorem lwm_936 : (.fieldLink RX0 54 "OwnedPlaces$Code" "total" "I" : Cond) ∈ lw_tbl := tb_3 _ (List.mem_of_getElem? (i := 2) (by decide +kernel))
set_option maxRecDepth 100000 in
theorem lwm_937 : (.fieldLink RX0 58 "OwnedPlaces$Code" "labels" "I" : Cond) ∈ lw_tbl := tb_3 _ (List.mem_of_getElem? (i := 6) (by decide +kernel))
set_option maxRecDepth 100000 in
theorem lwm_938 : (.fieldLink RX0 61 "OwnedPlaces$Code" "places" "I" : Cond) ∈ lw_tbl := tb_3 _ (List.mem_of_getElem? (i := 28) (by decide +kernel))
set_option maxRecDepth 100000 in
theorem lwm_939 : (.fieldLink RX0 64 "OwnedPlaces$Code" "arms" "I" : Cond) ∈ lw_tbl := tb_3 _ (List.mem_of_getElem? (i := 34) (by decide +kernel))
set_option maxRecDepth 100000 in
theorem lwm_940 : (.methodLink RX11 27 yX0_clear : Cond) ∈ lw_tbl := tb_6 _ (List.mem_of_getElem? (i := 53) (by decide +kernel))
set_option maxRecDepth 100000 in
theorem lwm_941 : (.instanceMethod yX0_clear : Cond) ∈ lw_tbl := tb_6 _ (List.mem_of_getElem? (i := 54) (by decide +kernel))
set_option maxRecDepth 100000 in
theorem lwm_942 : (.selects RX0 yX0_clear yX0_clear : Cond) ∈ lw_tbl := tb_6 _ (List.mem_of_getElem? (i := 55) (by decide +kernel))
set_option maxRecDepth 100000 in
theorem lwm_943 : (.fieldLink RX11 19 "OwnedPlaces$Typing" "declared" "LOwnedPlaces$Declarations;" : Cond) ∈ lw_tbl := tb_3 _ (List.mem_of_getElem? (i := 80) (by decide +kernel))
set_option maxRecDepth 100000 in
theorem lwm_944 : (.fieldLink RX11 32 "OwnedPlaces$Declarations" "total" "I" : Cond) ∈ lw_tbl := tb_2 _ (List.mem_of_getElem? (i := 195) (by decide +kernel))
set_option maxRecDepth 100000 in
theorem lwm_945 : (.fieldLink RX11 9 "OwnedPlaces$Typing" "text" "LOwnedPlaces$Text;" : Cond) ∈ lw_tbl := tb_3 _ (List.mem_of_getElem? (i := 78) (by decide +kernel))
set_option maxRecDepth 100000 in
theorem lwm_946 : (.fieldLink RX11 38 "OwnedPlaces$Text" "fault" "I" : Cond) ∈ lw_tbl := tb_1 _ (List.mem_of_getElem? (i := 140) (by decide +kernel))
set_option maxRecDepth 100000 in
theorem lwm_947 : (.fieldLink RX11 43 "OwnedPlaces$Declarations" "functions" "[LOwnedPlaces$Function;" : Cond) ∈ lw_tbl := tb_2 _ (List.mem_of_getElem? (i := 190) (by decide +kernel))
set_option maxRecDepth 100000 in
theorem lwm_948 : (.fieldLink RX11 47 "OwnedPlaces$Typing" "function" "LOwnedPlaces$Function;" : Cond) ∈ lw_tbl := tb_3 _ (List.mem_of_getElem? (i := 82) (by decide +kernel))
set_option maxRecDepth 100000 in
theorem lwm_949 : (.code yX11_body cX11_body 3 none : Cond) ∈ lw_tbl := tb_6 _ (List.mem_of_getElem? (i := 60) (by decide +kernel))
set_option maxRecDepth 100000 in
theorem lwm_950 : (.fieldLink RX11 54 "OwnedPlaces$Function" "parameters" "I" : Cond) ∈ lw_tbl := tb_2 _ (List.mem_of_getElem? (i := 84) (by decide +kernel))
set_option maxRecDepth 100000 in
theorem lwm_951 : (.fieldLink RX11 59 "OwnedPlaces$Function" "type" "[I" : Cond) ∈ lw_tbl := tb_2 _ (List.mem_of_getElem? (i := 108) (by decide +kernel))
set_option maxRecDepth 100000 in
theorem lwm_952 : (.fieldLink RX11 15 "OwnedPlaces$Typing" "types" "LOwnedPlaces$Types;" : Cond) ∈ lw_tbl := tb_3 _ (List.mem_of_getElem? (i := 79) (by decide +kernel))
set_option maxRecDepth 100000 in
theorem lwm_953 : (.fieldLink RX11 63 "OwnedPlaces$Types" "size" "[I" : Cond) ∈ lw_tbl := tb_2 _ (List.mem_of_getElem? (i := 0) (by decide +kernel))
set_option maxRecDepth 100000 in
theorem lwm_954 : (.code yX2_settle cX2_settle 4 none : Cond) ∈ lw_tbl := tb_6 _ (List.mem_of_getElem? (i := 64) (by decide +kernel))
set_option maxRecDepth 100000 in
theorem lwm_955 : (.methodLink RX11 68 yX2_settle : Cond) ∈ lw_tbl := tb_6 _ (List.mem_of_getElem? (i := 61) (by decide +kernel))
set_option maxRecDepth 100000 in
theorem lwm_956 : (.instanceMethod yX2_settle : Cond) ∈ lw_tbl := tb_6 _ (List.mem_of_getElem? (i := 62) (by decide +kernel))
set_option maxRecDepth 100000 in
theorem lwm_957 : (.selects RX2 yX2_settle yX2_settle : Cond) ∈ lw_tbl := tb_6 _ (List.mem_of_getElem? (i := 63) (by decide +kernel))
set_option maxRecDepth 100000 in
theorem lwm_958 : (.fieldLink RX11 72 "OwnedPlaces$Function" "from" "[I" : Cond) ∈ lw_tbl := tb_2 _ (List.mem_of_getElem? (i := 119) (by decide +kernel))
set_option maxRecDepth 100000 in
theorem lwm_959 : (.fieldLink RX11 75 "OwnedPlaces$Code" "total" "I" : Cond) ∈ lw_tbl := tb_3 _ (List.mem_of_getElem? (i := 3) (by decide +kernel))
set_option maxRecDepth 100000 in
theorem lwm_960 : (.fieldLink RX11 76 "OwnedPlaces$Function" "cells" "I" : Cond) ∈ lw_tbl := tb_2 _ (List.mem_of_getElem? (i := 124) (by decide +kernel))
set_option maxRecDepth 100000 in
theorem lwm_961 : (.fieldLink RX11 79 "OwnedPlaces$Function" "argumentCells" "I" : Cond) ∈ lw_tbl := tb_2 _ (List.mem_of_getElem? (i := 92) (by decide +kernel))
set_option maxRecDepth 100000 in
theorem lwm_962 : (.fieldLink RX11 82 "OwnedPlaces$Function" "codeFrom" "I" : Cond) ∈ lw_tbl := tb_2 _ (List.mem_of_getElem? (i := 128) (by decide +kernel))
set_option maxRecDepth 100000 in
theorem lwm_963 : (.fieldLink RX11 85 "OwnedPlaces$Code" "labels" "I" : Cond) ∈ lw_tbl := tb_3 _ (List.mem_of_getElem? (i := 7) (by decide +kernel))
set_option maxRecDepth 100000 in
theorem lwm_964 : (.fieldLink RX11 88 "OwnedPlaces$Function" "labelFrom" "I" : Cond) ∈ lw_tbl := tb_2 _ (List.mem_of_getElem? (i := 135) (by decide +kernel))
set_option maxRecDepth 100000 in
theorem lwm_965 : (.fieldLink RX11 91 "OwnedPlaces$Function" "body" "I" : Cond) ∈ lw_tbl := tb_2 _ (List.mem_of_getElem? (i := 77) (by decide +kernel))
set_option maxRecDepth 100000 in
theorem lwm_966 : (.fieldLink RX11 93 "OwnedPlaces$Text" "now" "I" : Cond) ∈ lw_tbl := tb_1 _ (List.mem_of_getElem? (i := 138) (by decide +kernel))
set_option maxRecDepth 100000 in
theorem lwm_967 : (.code yX11_block cX11_block 6 (some .boolean) : Cond) ∈ lw_tbl := tb_6 _ (List.mem_of_getElem? (i := 68) (by decide +kernel))
set_option maxRecDepth 100000 in
theorem lwm_968 : (.methodLink RX11 120 yX9_step : Cond) ∈ lw_tbl := tb_6 _ (List.mem_of_getElem? (i := 69) (by decide +kernel))
set_option maxRecDepth 100000 in
theorem lwm_969 : (.fieldLink RX11 132 "OwnedPlaces$Function" "variables" "I" : Cond) ∈ lw_tbl := tb_2 _ (List.mem_of_getElem? (i := 103) (by decide +kernel))
set_option maxRecDepth 100000 in
theorem lwm_970 : (.code yX2_close cX2_close 4 none : Cond) ∈ lw_tbl := tb_7 _ (List.mem_of_getElem? (i := 41) (by decide +kernel))
set_option maxRecDepth 100000 in
theorem lwm_971 : (.methodLink RX2 63 Lib.Math.min.name : Cond) ∈ lw_tbl := tb_7 _ (List.mem_of_getElem? (i := 42) (by decide +kernel))
set_option maxRecDepth 100000 in
theorem lwm_972 : (.methodLink RX11 135 yX2_close : Cond) ∈ lw_tbl := tb_7 _ (List.mem_of_getElem? (i := 38) (by decide +kernel))
set_option maxRecDepth 100000 in
theorem lwm_973 : (.instanceMethod yX2_close : Cond) ∈ lw_tbl := tb_7 _ (List.mem_of_getElem? (i := 39) (by decide +kernel))
set_option maxRecDepth 100000 in
theorem lwm_974 : (.selects RX2 yX2_close yX2_close : Cond) ∈ lw_tbl := tb_7 _ (List.mem_of_getElem? (i := 40) (by decide +kernel))
set_option maxRecDepth 100000 in
theorem lwm_975 : (.methodLink RX11 138 yX9_where : Cond) ∈ lw_tbl := tb_6 _ (List.mem_of_getElem? (i := 99) (by decide +kernel))
set_option maxRecDepth 100000 in
theorem lwm_976 : (.code yX0_add cX0_add 6 none : Cond) ∈ lw_tbl := tb_6 _ (List.mem_of_getElem? (i := 82) (by decide +kernel))
set_option maxRecDepth 100000 in
theorem lwm_977 : (.fieldLink RX0 9 "OwnedPlaces$Code" "op" "[I" : Cond) ∈ lw_tbl := tb_2 _ (List.mem_of_getElem? (i := 225) (by decide +kernel))
set_option maxRecDepth 100000 in
theorem lwm_978 : (.fieldLink RX0 15 "OwnedPlaces$Code" "a" "[I" : Cond) ∈ lw_tbl := tb_2 _ (List.mem_of_getElem? (i := 229) (by decide +kernel))
set_option maxRecDepth 100000 in
theorem lwm_979 : (.fieldLink RX0 18 "OwnedPlaces$Code" "b" "[I" : Cond) ∈ lw_tbl := tb_2 _ (List.mem_of_getElem? (i := 233) (by decide +kernel))
set_option maxRecDepth 100000 in
theorem lwm_980 : (.fieldLink RX0 21 "OwnedPlaces$Code" "c" "[I" : Cond) ∈ lw_tbl := tb_2 _ (List.mem_of_getElem? (i := 236) (by decide +kernel))
set_option maxRecDepth 100000 in
theorem lwm_981 : (.fieldLink RX0 24 "OwnedPlaces$Code" "where" "[I" : Cond) ∈ lw_tbl := tb_3 _ (List.mem_of_getElem? (i := 0) (by decide +kernel))
set_option maxRecDepth 100000 in
theorem lwm_982 : (.methodLink RX11 110 yX0_add : Cond) ∈ lw_tbl := tb_6 _ (List.mem_of_getElem? (i := 157) (by decide +kernel))
set_option maxRecDepth 100000 in
theorem lwm_983 : (.instanceMethod yX0_add : Cond) ∈ lw_tbl := tb_6 _ (List.mem_of_getElem? (i := 80) (by decide +kernel))
set_option maxRecDepth 100000 in
theorem lwm_984 : (.selects RX0 yX0_add yX0_add : Cond) ∈ lw_tbl := tb_6 _ (List.mem_of_getElem? (i := 81) (by decide +kernel))
set_option maxRecDepth 100000 in
theorem lwm_985 : (.methodLink RX11 124 yX9_kind : Cond) ∈ lw_tbl := tb_6 _ (List.mem_of_getElem? (i := 70) (by decide +kernel))
set_option maxRecDepth 100000 in
theorem lwm_986 : (.methodLink RX11 128 yX11_statement : Cond) ∈ lw_tbl := tb_6 _ (List.mem_of_getElem? (i := 71) (by decide +kernel))
set_option maxRecDepth 100000 in
theorem lwm_987 : (.instanceMethod yX11_statement : Cond) ∈ lw_tbl := tb_6 _ (List.mem_of_getElem? (i := 73) (by decide +kernel))
set_option maxRecDepth 100000 in
theorem lwm_988 : (.selects RX11 yX11_statement yX11_statement : Cond) ∈ lw_tbl := List.mem_append_left _ (List.mem_of_getElem? (i := 60) (by decide +kernel))
set_option maxRecDepth 100000 in
theorem lwm_989 : (.initialized RX11 : Cond) ∈ lw_tbl := tb_1 _ (List.mem_of_getElem? (i := 14) (by decide +kernel))
set_option maxRecDepth 100000 in
theorem lwm_990 : (.code yX11_statement cX11_statement 2 (some .boolean) : Cond) ∈ lw_tbl := tb_6 _ (List.mem_of_getElem? (i := 74) (by decide +kernel))
set_option maxRecDepth 100000 in
theorem lwm_991 : (.code yX0_add_ cX0_add_ 3 none : Cond) ∈ lw_tbl := tb_6 _ (List.mem_of_getElem? (i := 78) (by decide +kernel))
set_option maxRecDepth 100000 in
theorem lwm_992 : (.methodLink RX0 67 yX0_add : Cond) ∈ lw_tbl := tb_6 _ (List.mem_of_getElem? (i := 79) (by decide +kernel))
set_option maxRecDepth 100000 in
theorem lwm_993 : (.methodLink RX11 141 yX0_add_ : Cond) ∈ lw_tbl := tb_6 _ (List.mem_of_getElem? (i := 75) (by decide +kernel))
set_option maxRecDepth 100000 in
theorem lwm_994 : (.instanceMethod yX0_add_ : Cond) ∈ lw_tbl := tb_6 _ (List.mem_of_getElem? (i := 76) (by decide +kernel))
set_option maxRecDepth 100000 in
theorem lwm_995 : (.selects RX0 yX0_add_ yX0_add_ : Cond) ∈ lw_tbl := tb_6 _ (List.mem_of_getElem? (i := 77) (by decide +kernel))
set_option maxRecDepth 100000 in
theorem lwm_996 : (.methodLink RX11 155 yX11_let : Cond) ∈ lw_tbl := tb_7 _ (List.mem_of_getElem? (i := 14) (by decide +kernel))
set_option maxRecDepth 100000 in
theorem lwm_997 : (.instanceMethod yX11_let : Cond) ∈ lw_tbl := tb_7 _ (List.mem_of_getElem? (i := 16) (by decide +kernel))
set_option maxRecDepth 100000 in
theorem lwm_998 : (.selects RX11 yX11_let yX11_let : Cond) ∈ lw_tbl := List.mem_append_left _ (List.mem_of_getElem? (i := 91) (by decide +kernel))
set_option maxRecDepth 100000 in
theorem lwm_999 : (.methodLink RX11 143 yX11_branch : Cond) ∈ lw_tbl := tb_6 _ (List.mem_of_getElem? (i := 83) (by decide +kernel))
set_option maxRecDepth 100000 in
theorem lwm_1000 : (.instanceMethod yX11_branch : Cond) ∈ lw_tbl := tb_6 _ (List.mem_of_getElem? (i := 85) (by decide +kernel))
set_option maxRecDepth 100000 in
theorem lwm_1001 : (.selects RX11 yX11_branch yX11_branch : Cond) ∈ lw_tbl := List.mem_append_left _ (List.mem_of_getElem? (i := 61) (by decide +kernel))
set_option maxRecDepth 100000 in
theorem lwm_1002 : (.code yX11_loop cX11_loop 4 none : Cond) ∈ lw_tbl := tb_7 _ (List.mem_of_getElem? (i := 13) (by decide +kernel))
set_option maxRecDepth 100000 in
theorem lwm_1003 : (.code yX0_newLabel cX0_newLabel 1 (some .int) : Cond) ∈ lw_tbl := tb_6 _ (List.mem_of_getElem? (i := 90) (by decide +kernel))
set_option maxRecDepth 100000 in
theorem lwm_1004 : (.methodLink RX11 203 yX0_newLabel : Cond) ∈ lw_tbl := tb_6 _ (List.mem_of_getElem? (i := 87) (by decide +kernel))
set_option maxRecDepth 100000 in
theorem lwm_1005 : (.instanceMethod yX0_newLabel : Cond) ∈ lw_tbl := tb_6 _ (List.mem_of_getElem? (i := 88) (by decide +kernel))
set_option maxRecDepth 100000 in
theorem lwm_1006 : (.selects RX0 yX0_newLabel yX0_newLabel : Cond) ∈ lw_tbl := tb_6 _ (List.mem_of_getElem? (i := 89) (by decide +kernel))
set_option maxRecDepth 100000 in
theorem lwm_1007 : (.code yX0_setLabel cX0_setLabel 3 none : Cond) ∈ lw_tbl := tb_6 _ (List.mem_of_getElem? (i := 222) (by decide +kernel))
set_option maxRecDepth 100000 in
theorem lwm_1008 : (.fieldLink RX0 27 "OwnedPlaces$Code" "labelAt" "[I" : Cond) ∈ lw_tbl := tb_3 _ (List.mem_of_getElem? (i := 4) (by decide +kernel))
set_option maxRecDepth 100000 in
theorem lwm_1009 : (.methodLink RX0 71 yX0_add_ : Cond) ∈ lw_tbl := tb_6 _ (List.mem_of_getElem? (i := 223) (by decide +kernel))
set_option maxRecDepth 100000 in
theorem lwm_1010 : (.methodLink RX11 209 yX0_setLabel : Cond) ∈ lw_tbl := tb_6 _ (List.mem_of_getElem? (i := 219) (by decide +kernel))
set_option maxRecDepth 100000 in
theorem lwm_1011 : (.instanceMethod yX0_setLabel : Cond) ∈ lw_tbl := tb_6 _ (List.mem_of_getElem? (i := 220) (by decide +kernel))
set_option maxRecDepth 100000 in
theorem lwm_1012 : (.selects RX0 yX0_setLabel yX0_setLabel : Cond) ∈ lw_tbl := tb_6 _ (List.mem_of_getElem? (i := 221) (by decide +kernel))
set_option maxRecDepth 100000 in
theorem lwm_1013 : (.code yX11_condition cX11_condition 2 none : Cond) ∈ lw_tbl := tb_6 _ (List.mem_of_getElem? (i := 94) (by decide +kernel))
set_option maxRecDepth 100000 in
theorem lwm_1014 : (.code yX11_fitting cX11_fitting 5 none : Cond) ∈ lw_tbl := tb_6 _ (List.mem_of_getElem? (i := 98) (by decide +kernel))
set_option maxRecDepth 100000 in
theorem lwm_1015 : (.code yX11_value cX11_value 2 (some .int) : Cond) ∈ lw_tbl := tb_6 _ (List.mem_of_getElem? (i := 103) (by decide +kernel))
set_option maxRecDepth 100000 in
theorem lwm_1016 : (.methodLink RX11 188 yX11_binary : Cond) ∈ lw_tbl := tb_6 _ (List.mem_of_getElem? (i := 104) (by decide +kernel))
set_option maxRecDepth 100000 in
theorem lwm_1017 : (.instanceMethod yX11_binary : Cond) ∈ lw_tbl := tb_6 _ (List.mem_of_getElem? (i := 106) (by decide +kernel))
set_option maxRecDepth 100000 in
theorem lwm_1018 : (.selects RX11 yX11_binary yX11_binary : Cond) ∈ lw_tbl := List.mem_append_left _ (List.mem_of_getElem? (i := 65) (by decide +kernel))
set_option maxRecDepth 100000 in
theorem lwm_1019 : (.code yX11_use cX11_use 3 none : Cond) ∈ lw_tbl := tb_6 _ (List.mem_of_getElem? (i := 200) (by decide +kernel))
set_option maxRecDepth 100000 in
theorem lwm_1020 : (.fieldLink RX11 285 "OwnedPlaces$Typing" "isPlace" "Z" : Cond) ∈ lw_tbl := tb_3 _ (List.mem_of_getElem? (i := 84) (by decide +kernel))
set_option maxRecDepth 100000 in
theorem lwm_1021 : (.fieldLink RX11 214 "OwnedPlaces$Typing" "type" "I" : Cond) ∈ lw_tbl := tb_3 _ (List.mem_of_getElem? (i := 83) (by decide +kernel))
set_option maxRecDepth 100000 in
theorem lwm_1022 : (.code yX10_isCopied cX10_isCopied 2 (some .boolean) : Cond) ∈ lw_tbl := tb_6 _ (List.mem_of_getElem? (i := 204) (by decide +kernel))
set_option maxRecDepth 100000 in
theorem lwm_1023 : (.methodLink RX11 292 yX10_isCopied : Cond) ∈ lw_tbl := tb_6 _ (List.mem_of_getElem? (i := 201) (by decide +kernel))
set_option maxRecDepth 100000 in
theorem lwm_1024 : (.instanceMethod yX10_isCopied : Cond) ∈ lw_tbl := tb_6 _ (List.mem_of_getElem? (i := 202) (by decide +kernel))
set_option maxRecDepth 100000 in
theorem lwm_1025 : (.selects RX10 yX10_isCopied yX10_isCopied : Cond) ∈ lw_tbl := tb_6 _ (List.mem_of_getElem? (i := 203) (by decide +kernel))
set_option maxRecDepth 100000 in
theorem lwm_1026 : (.fieldLink RX11 272 "OwnedPlaces$Typing" "variable" "I" : Cond) ∈ lw_tbl := tb_3 _ (List.mem_of_getElem? (i := 85) (by decide +kernel))
set_option maxRecDepth 100000 in
theorem lwm_1027 : (.fieldLink RX11 275 "OwnedPlaces$Typing" "path" "I" : Cond) ∈ lw_tbl := tb_3 _ (List.mem_of_getElem? (i := 86) (by decide +kernel))
set_option maxRecDepth 100000 in
theorem lwm_1028 : (.fieldLink RX11 263 "OwnedPlaces$Typing" "length" "I" : Cond) ∈ lw_tbl := tb_3 _ (List.mem_of_getElem? (i := 87) (by decide +kernel))
set_option maxRecDepth 100000 in
theorem lwm_1029 : (.fieldLink RX11 278 "OwnedPlaces$Typing" "route" "I" : Cond) ∈ lw_tbl := tb_3 _ (List.mem_of_getElem? (i := 88) (by decide +kernel))
set_option maxRecDepth 100000 in
theorem lwm_1030 : (.fieldLink RX11 270 "OwnedPlaces$Typing" "from" "I" : Cond) ∈ lw_tbl := tb_3 _ (List.mem_of_getElem? (i := 90) (by decide +kernel))
set_option maxRecDepth 100000 in
theorem lwm_1031 : (.code yX0_addPlace cX0_addPlace 10 (some .int) : Cond) ∈ lw_tbl := tb_6 _ (List.mem_of_getElem? (i := 195) (by decide +kernel))
set_option maxRecDepth 100000 in
theorem lwm_1032 : (.fieldLink RX0 30 "OwnedPlaces$Code" "placeVariable" "[I" : Cond) ∈ lw_tbl := tb_3 _ (List.mem_of_getElem? (i := 8) (by decide +kernel))
set_option maxRecDepth 100000 in
theorem lwm_1033 : (.fieldLink RX0 33 "OwnedPlaces$Code" "placePath" "[I" : Cond) ∈ lw_tbl := tb_3 _ (List.mem_of_getElem? (i := 12) (by decide +kernel))
set_option maxRecDepth 100000 in
theorem lwm_1034 : (.fieldLink RX0 36 "OwnedPlaces$Code" "placeLength" "[I" : Cond) ∈ lw_tbl := tb_3 _ (List.mem_of_getElem? (i := 14) (by decide +kernel))
set_option maxRecDepth 100000 in
theorem lwm_1035 : (.fieldLink RX0 42 "OwnedPlaces$Code" "placeType" "[I" : Cond) ∈ lw_tbl := tb_3 _ (List.mem_of_getElem? (i := 19) (by decide +kernel))
set_option maxRecDepth 100000 in
theorem lwm_1036 : (.fieldLink RX0 45 "OwnedPlaces$Code" "placeWhere" "[I" : Cond) ∈ lw_tbl := tb_3 _ (List.mem_of_getElem? (i := 22) (by decide +kernel))
set_option maxRecDepth 100000 in
theorem lwm_1037 : (.fieldLink RX0 48 "OwnedPlaces$Code" "placeCells" "[I" : Cond) ∈ lw_tbl := tb_3 _ (List.mem_of_getElem? (i := 25) (by decide +kernel))
set_option maxRecDepth 100000 in
theorem lwm_1038 : (.methodLink RX11 281 yX0_addPlace : Cond) ∈ lw_tbl := tb_6 _ (List.mem_of_getElem? (i := 192) (by decide +kernel))
set_option maxRecDepth 100000 in
theorem lwm_1039 : (.instanceMethod yX0_addPlace : Cond) ∈ lw_tbl := tb_6 _ (List.mem_of_getElem? (i := 193) (by decide +kernel))
set_option maxRecDepth 100000 in
theorem lwm_1040 : (.selects RX0 yX0_addPlace yX0_addPlace : Cond) ∈ lw_tbl := tb_6 _ (List.mem_of_getElem? (i := 194) (by decide +kernel))
set_option maxRecDepth 100000 in
theorem lwm_1041 : (.code yX11_isMovable cX11_isMovable 3 (some .boolean) : Cond) ∈ lw_tbl := tb_6 _ (List.mem_of_getElem? (i := 208) (by decide +kernel))
set_option maxRecDepth 100000 in
theorem lwm_1042 : (.methodLink RX11 299 yX10_isReference : Cond) ∈ lw_tbl := tb_6 _ (List.mem_of_getElem? (i := 180) (by decide +kernel))
set_option maxRecDepth 100000 in
theorem lwm_1043 : (.methodLink RX11 295 yX11_isMovable : Cond) ∈ lw_tbl := tb_6 _ (List.mem_of_getElem? (i := 205) (by decide +kernel))
set_option maxRecDepth 100000 in
theorem lwm_1044 : (.instanceMethod yX11_isMovable : Cond) ∈ lw_tbl := tb_6 _ (List.mem_of_getElem? (i := 207) (by decide +kernel))
set_option maxRecDepth 100000 in
theorem lwm_1045 : (.selects RX11 yX11_isMovable yX11_isMovable : Cond) ∈ lw_tbl := List.mem_append_left _ (List.mem_of_getElem? (i := 82) (by decide +kernel))
set_option maxRecDepth 100000 in
theorem lwm_1046 : (.methodLink RX11 106 yX9_fail : Cond) ∈ lw_tbl := tb_6 _ (List.mem_of_getElem? (i := 145) (by decide +kernel))
set_option maxRecDepth 100000 in
theorem lwm_1047 : (.methodLink RX11 260 yX11_use : Cond) ∈ lw_tbl := tb_6 _ (List.mem_of_getElem? (i := 197) (by decide +kernel))
set_option maxRecDepth 100000 in
theorem lwm_1048 : (.instanceMethod yX11_use : Cond) ∈ lw_tbl := tb_6 _ (List.mem_of_getElem? (i := 199) (by decide +kernel))
set_option maxRecDepth 100000 in
theorem lwm_1049 : (.selects RX11 yX11_use yX11_use : Cond) ∈ lw_tbl := List.mem_append_left _ (List.mem_of_getElem? (i := 81) (by decide +kernel))
set_option maxRecDepth 100000 in
theorem lwm_1050 : (.methodLink RX11 173 yX11_value : Cond) ∈ lw_tbl := tb_6 _ (List.mem_of_getElem? (i := 100) (by decide +kernel))
set_option maxRecDepth 100000 in
theorem lwm_1051 : (.instanceMethod yX11_value : Cond) ∈ lw_tbl := tb_6 _ (List.mem_of_getElem? (i := 102) (by decide +kernel))
set_option maxRecDepth 100000 in
theorem lwm_1052 : (.selects RX11 yX11_value yX11_value : Cond) ∈ lw_tbl := List.mem_append_left _ (List.mem_of_getElem? (i := 64) (by decide +kernel))
set_option maxRecDepth 100000 in
theorem lwm_1053 : (.code yX11_binary cX11_binary 8 none : Cond) ∈ lw_tbl := tb_6 _ (List.mem_of_getElem? (i := 107) (by decide +kernel))
set_option maxRecDepth 100000 in
theorem lwm_1054 : (.code yX11_unary cX11_unary 5 none : Cond) ∈ lw_tbl := tb_6 _ (List.mem_of_getElem? (i := 111) (by decide +kernel))
set_option maxRecDepth 100000 in
theorem lwm_1055 : (.methodLink RX11 302 yX11_unary : Cond) ∈ lw_tbl := tb_6 _ (List.mem_of_getElem? (i := 108) (by decide +kernel))
set_option maxRecDepth 100000 in
theorem lwm_1056 : (.instanceMethod yX11_unary : Cond) ∈ lw_tbl := tb_6 _ (List.mem_of_getElem? (i := 110) (by decide +kernel))
set_option maxRecDepth 100000 in
theorem lwm_1057 : (.selects RX11 yX11_unary yX11_unary : Cond) ∈ lw_tbl := List.mem_append_left _ (List.mem_of_getElem? (i := 66) (by decide +kernel))
set_option maxRecDepth 100000 in
theorem lwm_1058 : (.code yX11_applySign cX11_applySign 4 none : Cond) ∈ lw_tbl := tb_6 _ (List.mem_of_getElem? (i := 212) (by decide +kernel))
set_option maxRecDepth 100000 in
theorem lwm_1059 : (.methodLink RX11 327 yX10_boxOf : Cond) ∈ lw_tbl := tb_6 _ (List.mem_of_getElem? (i := 213) (by decide +kernel))
set_option maxRecDepth 100000 in
theorem lwm_1060 : (.code yX11_give cX11_give 2 none : Cond) ∈ lw_tbl := tb_6 _ (List.mem_of_getElem? (i := 123) (by decide +kernel))
set_option maxRecDepth 100000 in
theorem lwm_1061 : (.methodLink RX11 311 yX11_give : Cond) ∈ lw_tbl := tb_6 _ (List.mem_of_getElem? (i := 120) (by decide +kernel))
set_option maxRecDepth 100000 in
theorem lwm_1062 : (.instanceMethod yX11_give : Cond) ∈ lw_tbl := tb_6 _ (List.mem_of_getElem? (i := 122) (by decide +kernel))
set_option maxRecDepth 100000 in
theorem lwm_1063 : (.selects RX11 yX11_give yX11_give : Cond) ∈ lw_tbl := List.mem_append_left _ (List.mem_of_getElem? (i := 69) (by decide +kernel))
set_option maxRecDepth 100000 in
theorem lwm_1064 : (.methodLink RX11 324 yX11_applySign : Cond) ∈ lw_tbl := tb_6 _ (List.mem_of_getElem? (i := 209) (by decide +kernel))
set_option maxRecDepth 100000 in
theorem lwm_1065 : (.instanceMethod yX11_applySign : Cond) ∈ lw_tbl := tb_6 _ (List.mem_of_getElem? (i := 211) (by decide +kernel))
set_option maxRecDepth 100000 in
theorem lwm_1066 : (.selects RX11 yX11_applySign yX11_applySign : Cond) ∈ lw_tbl := List.mem_append_left _ (List.mem_of_getElem? (i := 83) (by decide +kernel))
set_option maxRecDepth 100000 in
theorem lwm_1067 : (.code yX11_star cX11_star 3 none : Cond) ∈ lw_tbl := tb_6 _ (List.mem_of_getElem? (i := 179) (by decide +kernel))
set_option maxRecDepth 100000 in
theorem lwm_1068 : (.fieldLink RX11 212 "OwnedPlaces$Types" "kind" "[I" : Cond) ∈ lw_tbl := tb_1 _ (List.mem_of_getElem? (i := 235) (by decide +kernel))
set_option maxRecDepth 100000 in
theorem lwm_1069 : (.fieldLink RX11 266 "OwnedPlaces$Typing" "isMutable" "Z" : Cond) ∈ lw_tbl := tb_3 _ (List.mem_of_getElem? (i := 89) (by decide +kernel))
set_option maxRecDepth 100000 in
theorem lwm_1070 : (.fieldLink RX11 330 "OwnedPlaces$Types" "of" "[I" : Cond) ∈ lw_tbl := tb_1 _ (List.mem_of_getElem? (i := 238) (by decide +kernel))
set_option maxRecDepth 100000 in
theorem lwm_1071 : (.methodLink RX11 317 yX11_star : Cond) ∈ lw_tbl := tb_6 _ (List.mem_of_getElem? (i := 176) (by decide +kernel))
set_option maxRecDepth 100000 in
theorem lwm_1072 : (.instanceMethod yX11_star : Cond) ∈ lw_tbl := tb_6 _ (List.mem_of_getElem? (i := 178) (by decide +kernel))
set_option maxRecDepth 100000 in
theorem lwm_1073 : (.selects RX11 yX11_star yX11_star : Cond) ∈ lw_tbl := List.mem_append_left _ (List.mem_of_getElem? (i := 78) (by decide +kernel))
set_option maxRecDepth 100000 in
theorem lwm_1074 : (.methodLink RX11 164 yX9_take : Cond) ∈ lw_tbl := tb_6 _ (List.mem_of_getElem? (i := 146) (by decide +kernel))
set_option maxRecDepth 100000 in
theorem lwm_1075 : (.code yX11_borrow cX11_borrow 3 none : Cond) ∈ lw_tbl := tb_6 _ (List.mem_of_getElem? (i := 187) (by decide +kernel))
set_option maxRecDepth 100000 in
theorem lwm_1076 : (.code yX11_lend cX11_lend 4 (some .int) : Cond) ∈ lw_tbl := tb_6 _ (List.mem_of_getElem? (i := 191) (by decide +kernel))
set_option maxRecDepth 100000 in
theorem lwm_1077 : (.fieldLink RX11 333 "OwnedPlaces$Function" "borrows" "I" : Cond) ∈ lw_tbl := tb_2 _ (List.mem_of_getElem? (i := 141) (by decide +kernel))
set_option maxRecDepth 100000 in
theorem lwm_1078 : (.methodLink RX11 216 yX11_lend : Cond) ∈ lw_tbl := tb_6 _ (List.mem_of_getElem? (i := 188) (by decide +kernel))
set_option maxRecDepth 100000 in
theorem lwm_1079 : (.instanceMethod yX11_lend : Cond) ∈ lw_tbl := tb_6 _ (List.mem_of_getElem? (i := 190) (by decide +kernel))
set_option maxRecDepth 100000 in
theorem lwm_1080 : (.selects RX11 yX11_lend yX11_lend : Cond) ∈ lw_tbl := List.mem_append_left _ (List.mem_of_getElem? (i := 80) (by decide +kernel))
set_option maxRecDepth 100000 in
theorem lwm_1081 : (.methodLink RX11 256 yX10_referenceTo : Cond) ∈ lw_tbl := tb_6 _ (List.mem_of_getElem? (i := 196) (by decide +kernel))
set_option maxRecDepth 100000 in
theorem lwm_1082 : (.methodLink RX11 320 yX11_borrow : Cond) ∈ lw_tbl := tb_6 _ (List.mem_of_getElem? (i := 184) (by decide +kernel))
set_option maxRecDepth 100000 in
theorem lwm_1083 : (.instanceMethod yX11_borrow : Cond) ∈ lw_tbl := tb_6 _ (List.mem_of_getElem? (i := 186) (by decide +kernel))
set_option maxRecDepth 100000 in
theorem lwm_1084 : (.selects RX11 yX11_borrow yX11_borrow : Cond) ∈ lw_tbl := List.mem_append_left _ (List.mem_of_getElem? (i := 79) (by decide +kernel))
set_option maxRecDepth 100000 in
theorem lwm_1085 : (.methodLink RX11 314 yX11_suffixed : Cond) ∈ lw_tbl := tb_6 _ (List.mem_of_getElem? (i := 112) (by decide +kernel))
set_option maxRecDepth 100000 in
theorem lwm_1086 : (.instanceMethod yX11_suffixed : Cond) ∈ lw_tbl := tb_6 _ (List.mem_of_getElem? (i := 114) (by decide +kernel))
set_option maxRecDepth 100000 in
theorem lwm_1087 : (.selects RX11 yX11_suffixed yX11_suffixed : Cond) ∈ lw_tbl := List.mem_append_left _ (List.mem_of_getElem? (i := 67) (by decide +kernel))
set_option maxRecDepth 100000 in
theorem lwm_1088 : (.code yX11_operate cX11_operate 8 none : Cond) ∈ lw_tbl := tb_6 _ (List.mem_of_getElem? (i := 218) (by decide +kernel))
set_option maxRecDepth 100000 in
theorem lwm_1089 : (.methodLink RX11 308 yX11_operate : Cond) ∈ lw_tbl := tb_6 _ (List.mem_of_getElem? (i := 215) (by decide +kernel))
set_option maxRecDepth 100000 in
theorem lwm_1090 : (.instanceMethod yX11_operate : Cond) ∈ lw_tbl := tb_6 _ (List.mem_of_getElem? (i := 217) (by decide +kernel))
set_option maxRecDepth 100000 in
theorem lwm_1091 : (.selects RX11 yX11_operate yX11_operate : Cond) ∈ lw_tbl := List.mem_append_left _ (List.mem_of_getElem? (i := 84) (by decide +kernel))
set_option maxRecDepth 100000 in
theorem lwm_1092 : (.code yX11_suffixed cX11_suffixed 3 none : Cond) ∈ lw_tbl := tb_6 _ (List.mem_of_getElem? (i := 115) (by decide +kernel))
set_option maxRecDepth 100000 in
theorem lwm_1093 : (.methodLink RX11 336 yX11_primary : Cond) ∈ lw_tbl := tb_6 _ (List.mem_of_getElem? (i := 116) (by decide +kernel))
set_option maxRecDepth 100000 in
theorem lwm_1094 : (.instanceMethod yX11_primary : Cond) ∈ lw_tbl := tb_6 _ (List.mem_of_getElem? (i := 118) (by decide +kernel))
set_option maxRecDepth 100000 in
theorem lwm_1095 : (.selects RX11 yX11_primary yX11_primary : Cond) ∈ lw_tbl := List.mem_append_left _ (List.mem_of_getElem? (i := 68) (by decide +kernel))
set_option maxRecDepth 100000 in
theorem lwm_1096 : (.fieldLink RX11 167 "OwnedPlaces$Text" "names" "[I" : Cond) ∈ lw_tbl := tb_1 _ (List.mem_of_getElem? (i := 128) (by decide +kernel))
set_option maxRecDepth 100000 in
theorem lwm_1097 : (.code yX11_member cX11_member 6 none : Cond) ∈ lw_tbl := tb_6 _ (List.mem_of_getElem? (i := 175) (by decide +kernel))
set_option maxRecDepth 100000 in
theorem lwm_1098 : (.methodLink RX11 240 yX10_rowOf : Cond) ∈ lw_tbl := tb_6 _ (List.mem_of_getElem? (i := 156) (by decide +kernel))
set_option maxRecDepth 100000 in
theorem lwm_1099 : (.methodLink RX11 342 yX10_partOf : Cond) ∈ lw_tbl := tb_6 _ (List.mem_of_getElem? (i := 171) (by decide +kernel))
set_option maxRecDepth 100000 in
theorem lwm_1100 : (.fieldLink RX11 253 "OwnedPlaces$Types" "partOffset" "[I" : Cond) ∈ lw_tbl := tb_2 _ (List.mem_of_getElem? (i := 27) (by decide +kernel))
set_option maxRecDepth 100000 in
theorem lwm_1101 : (.fieldLink RX11 250 "OwnedPlaces$Types" "partType" "[I" : Cond) ∈ lw_tbl := tb_2 _ (List.mem_of_getElem? (i := 24) (by decide +kernel))
set_option maxRecDepth 100000 in
theorem lwm_1102 : (.methodLink RX11 339 yX11_member : Cond) ∈ lw_tbl := tb_6 _ (List.mem_of_getElem? (i := 172) (by decide +kernel))
set_option maxRecDepth 100000 in
theorem lwm_1103 : (.instanceMethod yX11_member : Cond) ∈ lw_tbl := tb_6 _ (List.mem_of_getElem? (i := 174) (by decide +kernel))
set_option maxRecDepth 100000 in
theorem lwm_1104 : (.selects RX11 yX11_member yX11_member : Cond) ∈ lw_tbl := List.mem_append_left _ (List.mem_of_getElem? (i := 77) (by decide +kernel))
set_option maxRecDepth 100000 in
theorem lwm_1105 : (.code yX11_primary cX11_primary 3 none : Cond) ∈ lw_tbl := tb_6 _ (List.mem_of_getElem? (i := 119) (by decide +kernel))
set_option maxRecDepth 100000 in
theorem lwm_1106 : (.methodLink RX11 353 yX11_named : Cond) ∈ lw_tbl := tb_6 _ (List.mem_of_getElem? (i := 132) (by decide +kernel))
set_option maxRecDepth 100000 in
theorem lwm_1107 : (.instanceMethod yX11_named : Cond) ∈ lw_tbl := tb_6 _ (List.mem_of_getElem? (i := 134) (by decide +kernel))
set_option maxRecDepth 100000 in
theorem lwm_1108 : (.selects RX11 yX11_named yX11_named : Cond) ∈ lw_tbl := List.mem_append_left _ (List.mem_of_getElem? (i := 71) (by decide +kernel))
set_option maxRecDepth 100000 in
theorem lwm_1109 : (.fieldLink RX11 345 "OwnedPlaces$Text" "numbers" "[J" : Cond) ∈ lw_tbl := tb_1 _ (List.mem_of_getElem? (i := 130) (by decide +kernel))
set_option maxRecDepth 100000 in
theorem lwm_1110 : (.code yX11_number cX11_number 4 none : Cond) ∈ lw_tbl := tb_6 _ (List.mem_of_getElem? (i := 127) (by decide +kernel))
set_option maxRecDepth 100000 in
theorem lwm_1111 : (.code yX0_addNumber cX0_addNumber 3 none : Cond) ∈ lw_tbl := tb_6 _ (List.mem_of_getElem? (i := 131) (by decide +kernel))
set_option maxRecDepth 100000 in
theorem lwm_1112 : (.methodLink RX11 359 yX0_addNumber : Cond) ∈ lw_tbl := tb_6 _ (List.mem_of_getElem? (i := 128) (by decide +kernel))
set_option maxRecDepth 100000 in
theorem lwm_1113 : (.instanceMethod yX0_addNumber : Cond) ∈ lw_tbl := tb_6 _ (List.mem_of_getElem? (i := 129) (by decide +kernel))
set_option maxRecDepth 100000 in
theorem lwm_1114 : (.selects RX0 yX0_addNumber yX0_addNumber : Cond) ∈ lw_tbl := tb_6 _ (List.mem_of_getElem? (i := 130) (by decide +kernel))
set_option maxRecDepth 100000 in
theorem lwm_1115 : (.methodLink RX11 349 yX11_number : Cond) ∈ lw_tbl := tb_6 _ (List.mem_of_getElem? (i := 124) (by decide +kernel))
set_option maxRecDepth 100000 in
theorem lwm_1116 : (.instanceMethod yX11_number : Cond) ∈ lw_tbl := tb_6 _ (List.mem_of_getElem? (i := 126) (by decide +kernel))
set_option maxRecDepth 100000 in
theorem lwm_1117 : (.selects RX11 yX11_number yX11_number : Cond) ∈ lw_tbl := List.mem_append_left _ (List.mem_of_getElem? (i := 70) (by decide +kernel))
set_option maxRecDepth 100000 in
theorem lwm_1118 : (.methodLink RX11 356 yX11_build : Cond) ∈ lw_tbl := tb_6 _ (List.mem_of_getElem? (i := 167) (by decide +kernel))
set_option maxRecDepth 100000 in
theorem lwm_1119 : (.instanceMethod yX11_build : Cond) ∈ lw_tbl := tb_6 _ (List.mem_of_getElem? (i := 169) (by decide +kernel))
set_option maxRecDepth 100000 in
theorem lwm_1120 : (.selects RX11 yX11_build yX11_build : Cond) ∈ lw_tbl := List.mem_append_left _ (List.mem_of_getElem? (i := 76) (by decide +kernel))
set_option maxRecDepth 100000 in
theorem lwm_1121 : (.code yX11_named cX11_named 4 none : Cond) ∈ lw_tbl := tb_6 _ (List.mem_of_getElem? (i := 135) (by decide +kernel))
set_option maxRecDepth 100000 in
theorem lwm_1122 : (.code yX9_kindBehind cX9_kindBehind 2 (some .int) : Cond) ∈ lw_tbl := tb_6 _ (List.mem_of_getElem? (i := 139) (by decide +kernel))
set_option maxRecDepth 100000 in
theorem lwm_1123 : (.methodLink RX11 363 yX9_kindBehind : Cond) ∈ lw_tbl := tb_6 _ (List.mem_of_getElem? (i := 136) (by decide +kernel))
set_option maxRecDepth 100000 in
theorem lwm_1124 : (.instanceMethod yX9_kindBehind : Cond) ∈ lw_tbl := tb_6 _ (List.mem_of_getElem? (i := 137) (by decide +kernel))
set_option maxRecDepth 100000 in
theorem lwm_1125 : (.selects RX9 yX9_kindBehind yX9_kindBehind : Cond) ∈ lw_tbl := tb_6 _ (List.mem_of_getElem? (i := 138) (by decide +kernel))
set_option maxRecDepth 100000 in
theorem lwm_1126 : (.methodLink RX11 366 yX11_call : Cond) ∈ lw_tbl := tb_6 _ (List.mem_of_getElem? (i := 140) (by decide +kernel))
set_option maxRecDepth 100000 in
theorem lwm_1127 : (.instanceMethod yX11_call : Cond) ∈ lw_tbl := tb_6 _ (List.mem_of_getElem? (i := 142) (by decide +kernel))
set_option maxRecDepth 100000 in
theorem lwm_1128 : (.selects RX11 yX11_call yX11_call : Cond) ∈ lw_tbl := List.mem_append_left _ (List.mem_of_getElem? (i := 72) (by decide +kernel))
set_option maxRecDepth 100000 in
theorem lwm_1129 : (.methodLink RX11 369 yX11_variant : Cond) ∈ lw_tbl := tb_6 _ (List.mem_of_getElem? (i := 147) (by decide +kernel))
set_option maxRecDepth 100000 in
theorem lwm_1130 : (.instanceMethod yX11_variant : Cond) ∈ lw_tbl := tb_6 _ (List.mem_of_getElem? (i := 149) (by decide +kernel))
set_option maxRecDepth 100000 in
theorem lwm_1131 : (.selects RX11 yX11_variant yX11_variant : Cond) ∈ lw_tbl := List.mem_append_left _ (List.mem_of_getElem? (i := 73) (by decide +kernel))
set_option maxRecDepth 100000 in
theorem lwm_1132 : (.code yX11_variableNamed cX11_variableNamed 4 none : Cond) ∈ lw_tbl := tb_6 _ (List.mem_of_getElem? (i := 161) (by decide +kernel))
set_option maxRecDepth 100000 in
theorem lwm_1133 : (.methodLink RX11 197 yX2_find : Cond) ∈ lw_tbl := tb_6 _ (List.mem_of_getElem? (i := 162) (by decide +kernel))
set_option maxRecDepth 100000 in
theorem lwm_1134 : (.code yX11_startPlace cX11_startPlace 3 none : Cond) ∈ lw_tbl := tb_6 _ (List.mem_of_getElem? (i := 166) (by decide +kernel))
set_option maxRecDepth 100000 in
theorem lwm_1135 : (.fieldLink RX11 288 "OwnedPlaces$Function" "mutable" "[Z" : Cond) ∈ lw_tbl := tb_2 _ (List.mem_of_getElem? (i := 115) (by decide +kernel))
set_option maxRecDepth 100000 in
theorem lwm_1136 : (.methodLink RX11 375 yX11_startPlace : Cond) ∈ lw_tbl := tb_6 _ (List.mem_of_getElem? (i := 163) (by decide +kernel))
set_option maxRecDepth 100000 in
theorem lwm_1137 : (.instanceMethod yX11_startPlace : Cond) ∈ lw_tbl := tb_6 _ (List.mem_of_getElem? (i := 165) (by decide +kernel))
set_option maxRecDepth 100000 in
theorem lwm_1138 : (.selects RX11 yX11_startPlace yX11_startPlace : Cond) ∈ lw_tbl := List.mem_append_left _ (List.mem_of_getElem? (i := 75) (by decide +kernel))
set_option maxRecDepth 100000 in
theorem lwm_1139 : (.methodLink RX11 372 yX11_variableNamed : Cond) ∈ lw_tbl := tb_6 _ (List.mem_of_getElem? (i := 158) (by decide +kernel))
set_option maxRecDepth 100000 in
theorem lwm_1140 : (.instanceMethod yX11_variableNamed : Cond) ∈ lw_tbl := tb_6 _ (List.mem_of_getElem? (i := 160) (by decide +kernel))
set_option maxRecDepth 100000 in
theorem lwm_1141 : (.selects RX11 yX11_variableNamed yX11_variableNamed : Cond) ∈ lw_tbl := List.mem_append_left _ (List.mem_of_getElem? (i := 74) (by decide +kernel))
set_option maxRecDepth 100000 in
theorem lwm_1142 : (.code yX11_build cX11_build 10 none : Cond) ∈ lw_tbl := tb_6 _ (List.mem_of_getElem? (i := 170) (by decide +kernel))
set_option maxRecDepth 100000 in
theorem lwm_1143 : (.code yX1_shapeOf cX1_shapeOf 4 (some .int) : Cond) ∈ lw_tbl := tb_6 _ (List.mem_of_getElem? (i := 154) (by decide +kernel))
set_option maxRecDepth 100000 in
theorem lwm_1144 : (.fieldLink RX1 75 "OwnedPlaces$Types" "kind" "[I" : Cond) ∈ lw_tbl := tb_1 _ (List.mem_of_getElem? (i := 233) (by decide +kernel))
set_option maxRecDepth 100000 in
theorem lwm_1145 : (.methodLink RX11 381 yX1_shapeOf : Cond) ∈ lw_tbl := tb_6 _ (List.mem_of_getElem? (i := 151) (by decide +kernel))
set_option maxRecDepth 100000 in
theorem lwm_1146 : (.instanceMethod yX1_shapeOf : Cond) ∈ lw_tbl := tb_6 _ (List.mem_of_getElem? (i := 152) (by decide +kernel))
set_option maxRecDepth 100000 in
theorem lwm_1147 : (.selects RX1 yX1_shapeOf yX1_shapeOf : Cond) ∈ lw_tbl := tb_6 _ (List.mem_of_getElem? (i := 153) (by decide +kernel))
set_option maxRecDepth 100000 in
theorem lwm_1148 : (.fieldLink RX11 243 "OwnedPlaces$Types" "parts" "[I" : Cond) ∈ lw_tbl := tb_2 _ (List.mem_of_getElem? (i := 20) (by decide +kernel))
set_option maxRecDepth 100000 in
theorem lwm_1149 : (.methodLink RX11 200 yX11_fitting : Cond) ∈ lw_tbl := tb_6 _ (List.mem_of_getElem? (i := 95) (by decide +kernel))
set_option maxRecDepth 100000 in
theorem lwm_1150 : (.instanceMethod yX11_fitting : Cond) ∈ lw_tbl := tb_6 _ (List.mem_of_getElem? (i := 97) (by decide +kernel))
set_option maxRecDepth 100000 in
theorem lwm_1151 : (.selects RX11 yX11_fitting yX11_fitting : Cond) ∈ lw_tbl := List.mem_append_left _ (List.mem_of_getElem? (i := 63) (by decide +kernel))
set_option maxRecDepth 100000 in
theorem lwm_1152 : (.code yX11_call cX11_call 6 none : Cond) ∈ lw_tbl := tb_6 _ (List.mem_of_getElem? (i := 143) (by decide +kernel))
set_option maxRecDepth 100000 in
theorem lwm_1153 : (.methodLink RX11 378 yX1_functionOf : Cond) ∈ lw_tbl := tb_6 _ (List.mem_of_getElem? (i := 144) (by decide +kernel))
set_option maxRecDepth 100000 in
theorem lwm_1154 : (.fieldLink RX11 181 "OwnedPlaces$Text" "links" "[I" : Cond) ∈ lw_tbl := tb_1 _ (List.mem_of_getElem? (i := 132) (by decide +kernel))
set_option maxRecDepth 100000 in
theorem lwm_1155 : (.fieldLink RX11 103 "OwnedPlaces$Function" "result" "I" : Cond) ∈ lw_tbl := tb_2 _ (List.mem_of_getElem? (i := 96) (by decide +kernel))
set_option maxRecDepth 100000 in
theorem lwm_1156 : (.code yX11_variant cX11_variant 10 none : Cond) ∈ lw_tbl := tb_6 _ (List.mem_of_getElem? (i := 150) (by decide +kernel))
set_option maxRecDepth 100000 in
theorem lwm_1157 : (.methodLink RX11 230 yX10_variantOf : Cond) ∈ lw_tbl := tb_6 _ (List.mem_of_getElem? (i := 155) (by decide +kernel))
set_option maxRecDepth 100000 in
theorem lwm_1158 : (.methodLink RX11 206 yX11_condition : Cond) ∈ lw_tbl := tb_6 _ (List.mem_of_getElem? (i := 91) (by decide +kernel))
set_option maxRecDepth 100000 in
theorem lwm_1159 : (.instanceMethod yX11_condition : Cond) ∈ lw_tbl := tb_6 _ (List.mem_of_getElem? (i := 93) (by decide +kernel))
set_option maxRecDepth 100000 in
theorem lwm_1160 : (.selects RX11 yX11_condition yX11_condition : Cond) ∈ lw_tbl := List.mem_append_left _ (List.mem_of_getElem? (i := 62) (by decide +kernel))
set_option maxRecDepth 100000 in
theorem lwm_1161 : (.methodLink RX11 96 yX11_block : Cond) ∈ lw_tbl := tb_6 _ (List.mem_of_getElem? (i := 65) (by decide +kernel))
set_option maxRecDepth 100000 in
theorem lwm_1162 : (.instanceMethod yX11_block : Cond) ∈ lw_tbl := tb_6 _ (List.mem_of_getElem? (i := 67) (by decide +kernel))
set_option maxRecDepth 100000 in
theorem lwm_1163 : (.selects RX11 yX11_block yX11_block : Cond) ∈ lw_tbl := List.mem_append_left _ (List.mem_of_getElem? (i := 59) (by decide +kernel))
set_option maxRecDepth 100000 in
theorem lwm_1164 : (.methodLink RX11 152 yX11_loop : Cond) ∈ lw_tbl := tb_7 _ (List.mem_of_getElem? (i := 10) (by decide +kernel))
set_option maxRecDepth 100000 in
theorem lwm_1165 : (.instanceMethod yX11_loop : Cond) ∈ lw_tbl := tb_7 _ (List.mem_of_getElem? (i := 12) (by decide +kernel))
set_option maxRecDepth 100000 in
theorem lwm_1166 : (.selects RX11 yX11_loop yX11_loop : Cond) ∈ lw_tbl := List.mem_append_left _ (List.mem_of_getElem? (i := 90) (by decide +kernel))
set_option maxRecDepth 100000 in
theorem lwm_1167 : (.methodLink RX11 146 yX11_match : Cond) ∈ lw_tbl := tb_6 _ (List.mem_of_getElem? (i := 224) (by decide +kernel))
set_option maxRecDepth 100000 in
theorem lwm_1168 : (.instanceMethod yX11_match : Cond) ∈ lw_tbl := tb_6 _ (List.mem_of_getElem? (i := 226) (by decide +kernel))
set_option maxRecDepth 100000 in
theorem lwm_1169 : (.selects RX11 yX11_match yX11_match : Cond) ∈ lw_tbl := List.mem_append_left _ (List.mem_of_getElem? (i := 85) (by decide +kernel))
set_option maxRecDepth 100000 in
theorem lwm_1170 : (.code yX11_giveBack cX11_giveBack 6 (some .boolean) : Cond) ∈ lw_tbl := tb_7 _ (List.mem_of_getElem? (i := 9) (by decide +kernel))
set_option maxRecDepth 100000 in
theorem lwm_1171 : (.methodLink RX11 149 yX11_giveBack : Cond) ∈ lw_tbl := tb_7 _ (List.mem_of_getElem? (i := 6) (by decide +kernel))
set_option maxRecDepth 100000 in
theorem lwm_1172 : (.instanceMethod yX11_giveBack : Cond) ∈ lw_tbl := tb_7 _ (List.mem_of_getElem? (i := 8) (by decide +kernel))
set_option maxRecDepth 100000 in
theorem lwm_1173 : (.selects RX11 yX11_giveBack yX11_giveBack : Cond) ∈ lw_tbl := List.mem_append_left _ (List.mem_of_getElem? (i := 89) (by decide +kernel))
set_option maxRecDepth 100000 in
theorem lwm_1174 : (.code yX11_print cX11_print 4 none : Cond) ∈ lw_tbl := tb_7 _ (List.mem_of_getElem? (i := 25) (by decide +kernel))
set_option maxRecDepth 100000 in
theorem lwm_1175 : (.methodLink RX11 158 yX11_print : Cond) ∈ lw_tbl := tb_7 _ (List.mem_of_getElem? (i := 22) (by decide +kernel))
set_option maxRecDepth 100000 in
theorem lwm_1176 : (.instanceMethod yX11_print : Cond) ∈ lw_tbl := tb_7 _ (List.mem_of_getElem? (i := 24) (by decide +kernel))
set_option maxRecDepth 100000 in
theorem lwm_1177 : (.selects RX11 yX11_print yX11_print : Cond) ∈ lw_tbl := List.mem_append_left _ (List.mem_of_getElem? (i := 92) (by decide +kernel))
set_option maxRecDepth 100000 in
theorem lwm_1178 : (.methodLink RX11 161 yX11_assignment : Cond) ∈ lw_tbl := tb_7 _ (List.mem_of_getElem? (i := 26) (by decide +kernel))
set_option maxRecDepth 100000 in
theorem lwm_1179 : (.instanceMethod yX11_assignment : Cond) ∈ lw_tbl := tb_7 _ (List.mem_of_getElem? (i := 28) (by decide +kernel))
set_option maxRecDepth 100000 in
theorem lwm_1180 : (.selects RX11 yX11_assignment yX11_assignment : Cond) ∈ lw_tbl := List.mem_append_left _ (List.mem_of_getElem? (i := 93) (by decide +kernel))
set_option maxRecDepth 100000 in
theorem lwm_1181 : (.code yX11_let cX11_let 8 none : Cond) ∈ lw_tbl := tb_7 _ (List.mem_of_getElem? (i := 17) (by decide +kernel))
set_option maxRecDepth 100000 in
theorem lwm_1182 : (.methodLink RX11 177 yX2_declare : Cond) ∈ lw_tbl := tb_7 _ (List.mem_of_getElem? (i := 5) (by decide +kernel))
set_option maxRecDepth 100000 in
theorem lwm_1183 : (.code yX1_readLetType cX1_readLetType 1 (some .int) : Cond) ∈ lw_tbl := tb_7 _ (List.mem_of_getElem? (i := 21) (by decide +kernel))
set_option maxRecDepth 100000 in
theorem lwm_1184 : (.methodLink RX11 170 yX1_readLetType : Cond) ∈ lw_tbl := tb_7 _ (List.mem_of_getElem? (i := 18) (by decide +kernel))
set_option maxRecDepth 100000 in
theorem lwm_1185 : (.instanceMethod yX1_readLetType : Cond) ∈ lw_tbl := tb_7 _ (List.mem_of_getElem? (i := 19) (by decide +kernel))
set_option maxRecDepth 100000 in
theorem lwm_1186 : (.selects RX1 yX1_readLetType yX1_readLetType : Cond) ∈ lw_tbl := tb_7 _ (List.mem_of_getElem? (i := 20) (by decide +kernel))
set_option maxRecDepth 100000 in
theorem lwm_1187 : (.code yX11_branch cX11_branch 9 (some .boolean) : Cond) ∈ lw_tbl := tb_6 _ (List.mem_of_getElem? (i := 86) (by decide +kernel))
set_option maxRecDepth 100000 in
theorem lwm_1188 : (.code yX11_match cX11_match 8 (some .boolean) : Cond) ∈ lw_tbl := tb_6 _ (List.mem_of_getElem? (i := 227) (by decide +kernel))
set_option maxRecDepth 100000 in
theorem lwm_1189 : (.code yX11_arms cX11_arms 15 (some .boolean) : Cond) ∈ lw_tbl := tb_6 _ (List.mem_of_getElem? (i := 231) (by decide +kernel))
set_option maxRecDepth 100000 in
theorem lwm_1190 : (.fieldLink RX11 224 "OwnedPlaces$Types" "variants" "[I" : Cond) ∈ lw_tbl := tb_2 _ (List.mem_of_getElem? (i := 16) (by decide +kernel))
set_option maxRecDepth 100000 in
theorem lwm_1191 : (.code yX0_newArms cX0_newArms 3 (some .int) : Cond) ∈ lw_tbl := tb_6 _ (List.mem_of_getElem? (i := 235) (by decide +kernel))
set_option maxRecDepth 100000 in
theorem lwm_1192 : (.methodLink RX0 74 Lib.Math.min.name : Cond) ∈ lw_tbl := tb_6 _ (List.mem_of_getElem? (i := 236) (by decide +kernel))
set_option maxRecDepth 100000 in
theorem lwm_1193 : (.methodLink RX11 227 yX0_newArms : Cond) ∈ lw_tbl := tb_6 _ (List.mem_of_getElem? (i := 232) (by decide +kernel))
set_option maxRecDepth 100000 in
theorem lwm_1194 : (.instanceMethod yX0_newArms : Cond) ∈ lw_tbl := tb_6 _ (List.mem_of_getElem? (i := 233) (by decide +kernel))
set_option maxRecDepth 100000 in
theorem lwm_1195 : (.selects RX0 yX0_newArms yX0_newArms : Cond) ∈ lw_tbl := tb_6 _ (List.mem_of_getElem? (i := 234) (by decide +kernel))
set_option maxRecDepth 100000 in
theorem lwm_1196 : (.fieldLink RX11 233 "OwnedPlaces$Code" "armLabels" "[I" : Cond) ∈ lw_tbl := tb_3 _ (List.mem_of_getElem? (i := 32) (by decide +kernel))
set_option maxRecDepth 100000 in
theorem lwm_1197 : (.code yX11_arm cX11_arm 11 (some .boolean) : Cond) ∈ lw_tbl := tb_7 _ (List.mem_of_getElem? (i := 0) (by decide +kernel))
set_option maxRecDepth 100000 in
theorem lwm_1198 : (.code yX11_bind cX11_bind 7 none : Cond) ∈ lw_tbl := tb_7 _ (List.mem_of_getElem? (i := 4) (by decide +kernel))
set_option maxRecDepth 100000 in
theorem lwm_1199 : (.methodLink RX11 246 yX11_bind : Cond) ∈ lw_tbl := tb_7 _ (List.mem_of_getElem? (i := 1) (by decide +kernel))
set_option maxRecDepth 100000 in
theorem lwm_1200 : (.instanceMethod yX11_bind : Cond) ∈ lw_tbl := tb_7 _ (List.mem_of_getElem? (i := 3) (by decide +kernel))
set_option maxRecDepth 100000 in
theorem lwm_1201 : (.selects RX11 yX11_bind yX11_bind : Cond) ∈ lw_tbl := List.mem_append_left _ (List.mem_of_getElem? (i := 88) (by decide +kernel))
set_option maxRecDepth 100000 in
theorem lwm_1202 : (.methodLink RX11 236 yX11_arm : Cond) ∈ lw_tbl := tb_6 _ (List.mem_of_getElem? (i := 237) (by decide +kernel))
set_option maxRecDepth 100000 in
theorem lwm_1203 : (.instanceMethod yX11_arm : Cond) ∈ lw_tbl := tb_6 _ (List.mem_of_getElem? (i := 239) (by decide +kernel))
set_option maxRecDepth 100000 in
theorem lwm_1204 : (.selects RX11 yX11_arm yX11_arm : Cond) ∈ lw_tbl := List.mem_append_left _ (List.mem_of_getElem? (i := 87) (by decide +kernel))
set_option maxRecDepth 100000 in
theorem lwm_1205 : (.methodLink RX11 220 yX11_arms : Cond) ∈ lw_tbl := tb_6 _ (List.mem_of_getElem? (i := 228) (by decide +kernel))
set_option maxRecDepth 100000 in
theorem lwm_1206 : (.instanceMethod yX11_arms : Cond) ∈ lw_tbl := tb_6 _ (List.mem_of_getElem? (i := 230) (by decide +kernel))
set_option maxRecDepth 100000 in
theorem lwm_1207 : (.selects RX11 yX11_arms yX11_arms : Cond) ∈ lw_tbl := List.mem_append_left _ (List.mem_of_getElem? (i := 86) (by decide +kernel))
set_option maxRecDepth 100000 in
theorem lwm_1208 : (.code yX11_assignment cX11_assignment 8 none : Cond) ∈ lw_tbl := tb_7 _ (List.mem_of_getElem? (i := 29) (by decide +kernel))
set_option maxRecDepth 100000 in
theorem lwm_1209 : (.code yX11_wholeVariable cX11_wholeVariable 6 (some .int) : Cond) ∈ lw_tbl := tb_7 _ (List.mem_of_getElem? (i := 33) (by decide +kernel))
set_option maxRecDepth 100000 in
theorem lwm_1210 : (.fieldLink RX11 194 "OwnedPlaces$Text" "kinds" "[I" : Cond) ∈ lw_tbl := tb_1 _ (List.mem_of_getElem? (i := 122) (by decide +kernel))
set_option maxRecDepth 100000 in
theorem lwm_1211 : (.methodLink RX11 184 yX11_wholeVariable : Cond) ∈ lw_tbl := tb_7 _ (List.mem_of_getElem? (i := 30) (by decide +kernel))
set_option maxRecDepth 100000 in
theorem lwm_1212 : (.instanceMethod yX11_wholeVariable : Cond) ∈ lw_tbl := tb_7 _ (List.mem_of_getElem? (i := 32) (by decide +kernel))
set_option maxRecDepth 100000 in
theorem lwm_1213 : (.selects RX11 yX11_wholeVariable yX11_wholeVariable : Cond) ∈ lw_tbl := List.mem_append_left _ (List.mem_of_getElem? (i := 94) (by decide +kernel))
set_option maxRecDepth 100000 in
theorem lwm_1214 : (.code yX11_assign cX11_assign 3 none : Cond) ∈ lw_tbl := tb_7 _ (List.mem_of_getElem? (i := 37) (by decide +kernel))
set_option maxRecDepth 100000 in
theorem lwm_1215 : (.methodLink RX11 191 yX11_assign : Cond) ∈ lw_tbl := tb_7 _ (List.mem_of_getElem? (i := 34) (by decide +kernel))
set_option maxRecDepth 100000 in
theorem lwm_1216 : (.instanceMethod yX11_assign : Cond) ∈ lw_tbl := tb_7 _ (List.mem_of_getElem? (i := 36) (by decide +kernel))
set_option maxRecDepth 100000 in
theorem lwm_1217 : (.selects RX11 yX11_assign yX11_assign : Cond) ∈ lw_tbl := List.mem_append_left _ (List.mem_of_getElem? (i := 95) (by decide +kernel))
set_option maxRecDepth 100000 in
theorem lwm_1218 : (.fieldLink RX11 100 "OwnedPlaces$Text" "places" "[I" : Cond) ∈ lw_tbl := tb_1 _ (List.mem_of_getElem? (i := 124) (by decide +kernel))
set_option maxRecDepth 100000 in
theorem lwm_1219 : (.fieldLink RX11 114 "OwnedPlaces$Function" "codeTo" "I" : Cond) ∈ lw_tbl := tb_2 _ (List.mem_of_getElem? (i := 132) (by decide +kernel))
set_option maxRecDepth 100000 in
theorem lwm_1220 : (.fieldLink RX11 117 "OwnedPlaces$Function" "labelTo" "I" : Cond) ∈ lw_tbl := tb_2 _ (List.mem_of_getElem? (i := 138) (by decide +kernel))
set_option maxRecDepth 100000 in
theorem lwm_1221 : (.methodLink RX11 51 yX11_body : Cond) ∈ lw_tbl := tb_6 _ (List.mem_of_getElem? (i := 57) (by decide +kernel))
set_option maxRecDepth 100000 in
theorem lwm_1222 : (.instanceMethod yX11_body : Cond) ∈ lw_tbl := tb_6 _ (List.mem_of_getElem? (i := 59) (by decide +kernel))
set_option maxRecDepth 100000 in
theorem lwm_1223 : (.selects RX11 yX11_body yX11_body : Cond) ∈ lw_tbl := List.mem_append_left _ (List.mem_of_getElem? (i := 58) (by decide +kernel))
set_option maxRecDepth 100000 in
theorem lwm_1224 : (.methodLink RX12 171 yX11_program : Cond) ∈ lw_tbl := tb_6 _ (List.mem_of_getElem? (i := 49) (by decide +kernel))
set_option maxRecDepth 100000 in
theorem lwm_1225 : (.instanceMethod yX11_program : Cond) ∈ lw_tbl := tb_6 _ (List.mem_of_getElem? (i := 50) (by decide +kernel))
set_option maxRecDepth 100000 in
theorem lwm_1226 : (.selects RX11 yX11_program yX11_program : Cond) ∈ lw_tbl := tb_6 _ (List.mem_of_getElem? (i := 51) (by decide +kernel))
set_option maxRecDepth 100000 in
theorem lwm_1227 : (.methodLink RX12 122 yX12_lookOver : Cond) ∈ lw_tbl := tb_4 _ (List.mem_of_getElem? (i := 177) (by decide +kernel))
set_option maxRecDepth 100000 in
theorem lwm_1228 : (.instanceMethod yX12_lookOver : Cond) ∈ lw_tbl := tb_4 _ (List.mem_of_getElem? (i := 179) (by decide +kernel))
set_option maxRecDepth 100000 in
theorem lwm_1229 : (.selects RX12 yX12_lookOver yX12_lookOver : Cond) ∈ lw_tbl := List.mem_append_left _ (List.mem_of_getElem? (i := 3) (by decide +kernel))
set_option maxRecDepth 100000 in
theorem lwm_1230 : (.fieldLink RX12 125 "OwnedPlaces$Text" "place" "I" : Cond) ∈ lw_tbl := tb_1 _ (List.mem_of_getElem? (i := 145) (by decide +kernel))
set_option maxRecDepth 100000 in
theorem lwm_1231 : (.fieldLink RX12 105 "OwnedPlaces" "machine" "LOwnedPlaces$Machine;" : Cond) ∈ lw_tbl := tb_4 _ (List.mem_of_getElem? (i := 118) (by decide +kernel))
set_option maxRecDepth 100000 in
theorem lwm_1232 : (.fieldLink RX12 134 "OwnedPlaces$Declarations" "main" "I" : Cond) ∈ lw_tbl := tb_2 _ (List.mem_of_getElem? (i := 197) (by decide +kernel))
set_option maxRecDepth 100000 in
theorem lwm_1233 : (.code yX5_execute cX5_execute 5 (some .int) : Cond) ∈ lw_tbl := tb_7 _ (List.mem_of_getElem? (i := 195) (by decide +kernel))
set_option maxRecDepth 100000 in
theorem lwm_1234 : (.constant RX5 80 1073741824 : Cond) ∈ lw_tbl := tb_7 _ (List.mem_of_getElem? (i := 231) (by decide +kernel))
set_option maxRecDepth 100000 in
theorem lwm_1235 : (.fieldLink RX5 54 "OwnedPlaces$Machine" "fault" "I" : Cond) ∈ lw_tbl := tb_4 _ (List.mem_of_getElem? (i := 56) (by decide +kernel))
set_option maxRecDepth 100000 in
theorem lwm_1236 : (.fieldLink RX5 57 "OwnedPlaces$Machine" "isRunning" "Z" : Cond) ∈ lw_tbl := tb_4 _ (List.mem_of_getElem? (i := 57) (by decide +kernel))
set_option maxRecDepth 100000 in
theorem lwm_1237 : (.fieldLink RX5 81 "OwnedPlaces$Machine" "next" "I" : Cond) ∈ lw_tbl := tb_4 _ (List.mem_of_getElem? (i := 58) (by decide +kernel))
set_option maxRecDepth 100000 in
theorem lwm_1238 : (.fieldLink RX5 27 "OwnedPlaces$Machine" "code" "LOwnedPlaces$Code;" : Cond) ∈ lw_tbl := tb_4 _ (List.mem_of_getElem? (i := 48) (by decide +kernel))
set_option maxRecDepth 100000 in
theorem lwm_1239 : (.fieldLink RX5 84 "OwnedPlaces$Code" "op" "[I" : Cond) ∈ lw_tbl := tb_2 _ (List.mem_of_getElem? (i := 226) (by decide +kernel))
set_option maxRecDepth 100000 in
theorem lwm_1240 : (.code yX5_workOnValues cX5_workOnValues 5 none : Cond) ∈ lw_tbl := tb_7 _ (List.mem_of_getElem? (i := 235) (by decide +kernel))
set_option maxRecDepth 100000 in
theorem lwm_1241 : (.fieldLink RX5 39 "OwnedPlaces$Machine" "memory" "LOwnedPlaces$Memory;" : Cond) ∈ lw_tbl := tb_4 _ (List.mem_of_getElem? (i := 51) (by decide +kernel))
set_option maxRecDepth 100000 in
theorem lwm_1242 : (.fieldLink RX5 98 "OwnedPlaces$Memory" "cells" "[J" : Cond) ∈ lw_tbl := tb_4 _ (List.mem_of_getElem? (i := 5) (by decide +kernel))
set_option maxRecDepth 100000 in
theorem lwm_1243 : (.fieldLink RX5 121 "OwnedPlaces$Code" "a" "[I" : Cond) ∈ lw_tbl := tb_2 _ (List.mem_of_getElem? (i := 232) (by decide +kernel))
set_option maxRecDepth 100000 in
theorem lwm_1244 : (.fieldLink RX5 124 "OwnedPlaces$Code" "b" "[I" : Cond) ∈ lw_tbl := tb_2 _ (List.mem_of_getElem? (i := 235) (by decide +kernel))
set_option maxRecDepth 100000 in
theorem lwm_1245 : (.constantLong RX5 127 4294967295 : Cond) ∈ lw_tbl := tb_7 _ (List.mem_of_getElem? (i := 236) (by decide +kernel))
set_option maxRecDepth 100000 in
theorem lwm_1246 : (.code yX5_push cX5_push 3 none : Cond) ∈ lw_tbl := tb_8 _ (List.mem_of_getElem? (i := 0) (by decide +kernel))
set_option maxRecDepth 100000 in
theorem lwm_1247 : (.fieldLink RX5 73 "OwnedPlaces$Machine" "top" "I" : Cond) ∈ lw_tbl := tb_4 _ (List.mem_of_getElem? (i := 60) (by decide +kernel))
set_option maxRecDepth 100000 in
theorem lwm_1248 : (.methodLink RX5 129 yX5_push : Cond) ∈ lw_tbl := tb_7 _ (List.mem_of_getElem? (i := 237) (by decide +kernel))
set_option maxRecDepth 100000 in
theorem lwm_1249 : (.instanceMethod yX5_push : Cond) ∈ lw_tbl := tb_7 _ (List.mem_of_getElem? (i := 239) (by decide +kernel))
set_option maxRecDepth 100000 in
theorem lwm_1250 : (.selects RX5 yX5_push yX5_push : Cond) ∈ lw_tbl := List.mem_append_left _ (List.mem_of_getElem? (i := 131) (by decide +kernel))
set_option maxRecDepth 100000 in
theorem lwm_1251 : (.initialized RX5 : Cond) ∈ lw_tbl := tb_1 _ (List.mem_of_getElem? (i := 19) (by decide +kernel))
set_option maxRecDepth 100000 in
theorem lwm_1252 : (.fieldLink RX5 43 "OwnedPlaces$Machine" "numbers" "LOwnedPlaces$Queue;" : Cond) ∈ lw_tbl := tb_4 _ (List.mem_of_getElem? (i := 52) (by decide +kernel))
set_option maxRecDepth 100000 in
theorem lwm_1253 : (.methodLink RX5 133 yX8_take : Cond) ∈ lw_tbl := tb_8 _ (List.mem_of_getElem? (i := 1) (by decide +kernel))
set_option maxRecDepth 100000 in
theorem lwm_1254 : (.code yX5_addressOf cX5_addressOf 6 (some .int) : Cond) ∈ lw_tbl := tb_8 _ (List.mem_of_getElem? (i := 8) (by decide +kernel))
set_option maxRecDepth 100000 in
theorem lwm_1255 : (.fieldLink RX5 108 "OwnedPlaces$Code" "placeRoute" "[I" : Cond) ∈ lw_tbl := tb_3 _ (List.mem_of_getElem? (i := 18) (by decide +kernel))
set_option maxRecDepth 100000 in
theorem lwm_1256 : (.fieldLink RX5 70 "OwnedPlaces$Machine" "base" "I" : Cond) ∈ lw_tbl := tb_4 _ (List.mem_of_getElem? (i := 59) (by decide +kernel))
set_option maxRecDepth 100000 in
theorem lwm_1257 : (.fieldLink RX5 111 "OwnedPlaces$Machine" "function" "LOwnedPlaces$Function;" : Cond) ∈ lw_tbl := tb_4 _ (List.mem_of_getElem? (i := 62) (by decide +kernel))
set_option maxRecDepth 100000 in
theorem lwm_1258 : (.fieldLink RX5 115 "OwnedPlaces$Function" "offset" "[I" : Cond) ∈ lw_tbl := tb_2 _ (List.mem_of_getElem? (i := 117) (by decide +kernel))
set_option maxRecDepth 100000 in
theorem lwm_1259 : (.fieldLink RX5 118 "OwnedPlaces$Code" "placeVariable" "[I" : Cond) ∈ lw_tbl := tb_3 _ (List.mem_of_getElem? (i := 11) (by decide +kernel))
set_option maxRecDepth 100000 in
theorem lwm_1260 : (.methodLink RX5 139 yX5_addressOf : Cond) ∈ lw_tbl := tb_8 _ (List.mem_of_getElem? (i := 5) (by decide +kernel))
set_option maxRecDepth 100000 in
theorem lwm_1261 : (.instanceMethod yX5_addressOf : Cond) ∈ lw_tbl := tb_8 _ (List.mem_of_getElem? (i := 7) (by decide +kernel))
set_option maxRecDepth 100000 in
theorem lwm_1262 : (.selects RX5 yX5_addressOf yX5_addressOf : Cond) ∈ lw_tbl := List.mem_append_left _ (List.mem_of_getElem? (i := 132) (by decide +kernel))
set_option maxRecDepth 100000 in
theorem lwm_1263 : (.fieldLink RX5 31 "OwnedPlaces$Machine" "types" "LOwnedPlaces$Types;" : Cond) ∈ lw_tbl := tb_4 _ (List.mem_of_getElem? (i := 49) (by decide +kernel))
set_option maxRecDepth 100000 in
theorem lwm_1264 : (.fieldLink RX5 143 "OwnedPlaces$Types" "size" "[I" : Cond) ∈ lw_tbl := tb_2 _ (List.mem_of_getElem? (i := 3) (by decide +kernel))
set_option maxRecDepth 100000 in
theorem lwm_1265 : (.fieldLink RX5 148 "OwnedPlaces$Code" "placeType" "[I" : Cond) ∈ lw_tbl := tb_3 _ (List.mem_of_getElem? (i := 20) (by decide +kernel))
set_option maxRecDepth 100000 in
theorem lwm_1266 : (.code yX5_pushFrom cX5_pushFrom 3 none : Cond) ∈ lw_tbl := tb_8 _ (List.mem_of_getElem? (i := 12) (by decide +kernel))
set_option maxRecDepth 100000 in
theorem lwm_1267 : (.methodLink RX5 102 arraycopyName : Cond) ∈ lw_tbl := tb_8 _ (List.mem_of_getElem? (i := 13) (by decide +kernel))
set_option maxRecDepth 100000 in
theorem lwm_1268 : (.methodLink RX5 151 yX5_pushFrom : Cond) ∈ lw_tbl := tb_8 _ (List.mem_of_getElem? (i := 9) (by decide +kernel))
set_option maxRecDepth 100000 in
theorem lwm_1269 : (.instanceMethod yX5_pushFrom : Cond) ∈ lw_tbl := tb_8 _ (List.mem_of_getElem? (i := 11) (by decide +kernel))
set_option maxRecDepth 100000 in
theorem lwm_1270 : (.selects RX5 yX5_pushFrom yX5_pushFrom : Cond) ∈ lw_tbl := List.mem_append_left _ (List.mem_of_getElem? (i := 133) (by decide +kernel))
set_option maxRecDepth 100000 in
theorem lwm_1271 : (.code yX5_move cX5_move 4 none : Cond) ∈ lw_tbl := tb_8 _ (List.mem_of_getElem? (i := 17) (by decide +kernel))
set_option maxRecDepth 100000 in
theorem lwm_1272 : (.fieldLink RX5 24 "OwnedPlaces$Machine" "filled" "[I" : Cond) ∈ lw_tbl := tb_4 _ (List.mem_of_getElem? (i := 66) (by decide +kernel))
set_option maxRecDepth 100000 in
theorem lwm_1273 : (.fieldLink RX5 175 "OwnedPlaces$Machine" "filledBase" "I" : Cond) ∈ lw_tbl := tb_4 _ (List.mem_of_getElem? (i := 67) (by decide +kernel))
set_option maxRecDepth 100000 in
theorem lwm_1274 : (.fieldLink RX5 178 "OwnedPlaces$Code" "placeCells" "[I" : Cond) ∈ lw_tbl := tb_3 _ (List.mem_of_getElem? (i := 27) (by decide +kernel))
set_option maxRecDepth 100000 in
theorem lwm_1275 : (.methodLink RX5 181 yX0_hasStars : Cond) ∈ lw_tbl := tb_8 _ (List.mem_of_getElem? (i := 18) (by decide +kernel))
set_option maxRecDepth 100000 in
theorem lwm_1276 : (.code yX6_freeBlock cX6_freeBlock 3 none : Cond) ∈ lw_tbl := tb_8 _ (List.mem_of_getElem? (i := 22) (by decide +kernel))
set_option maxRecDepth 100000 in
theorem lwm_1277 : (.code yJ7_fill_eb02e cJ7_fill_eb02e 5 none : Cond) ∈ lw_tbl := tb_8 _ (List.mem_of_getElem? (i := 25) (by decide +kernel))
set_option maxRecDepth 100000 in
theorem lwm_1278 : (.methodLink RX6 66 yJ7_fill_eb02e : Cond) ∈ lw_tbl := tb_8 _ (List.mem_of_getElem? (i := 23) (by decide +kernel))
set_option maxRecDepth 100000 in
theorem lwm_1279 : (.static yJ7_fill_eb02e : Cond) ∈ lw_tbl := tb_8 _ (List.mem_of_getElem? (i := 24) (by decide +kernel))
set_option maxRecDepth 100000 in
theorem lwm_1280 : (.methodLink RX6 69 Lib.Math.min.name : Cond) ∈ lw_tbl := tb_8 _ (List.mem_of_getElem? (i := 26) (by decide +kernel))
set_option maxRecDepth 100000 in
theorem lwm_1281 : (.methodLink RX5 185 yX6_freeBlock : Cond) ∈ lw_tbl := tb_8 _ (List.mem_of_getElem? (i := 19) (by decide +kernel))
set_option maxRecDepth 100000 in
theorem lwm_1282 : (.instanceMethod yX6_freeBlock : Cond) ∈ lw_tbl := tb_8 _ (List.mem_of_getElem? (i := 20) (by decide +kernel))
set_option maxRecDepth 100000 in
theorem lwm_1283 : (.selects RX6 yX6_freeBlock yX6_freeBlock : Cond) ∈ lw_tbl := tb_8 _ (List.mem_of_getElem? (i := 21) (by decide +kernel))
set_option maxRecDepth 100000 in
theorem lwm_1284 : (.methodLink RX5 155 yX5_move : Cond) ∈ lw_tbl := tb_8 _ (List.mem_of_getElem? (i := 14) (by decide +kernel))
set_option maxRecDepth 100000 in
theorem lwm_1285 : (.instanceMethod yX5_move : Cond) ∈ lw_tbl := tb_8 _ (List.mem_of_getElem? (i := 16) (by decide +kernel))
set_option maxRecDepth 100000 in
theorem lwm_1286 : (.selects RX5 yX5_move yX5_move : Cond) ∈ lw_tbl := List.mem_append_left _ (List.mem_of_getElem? (i := 134) (by decide +kernel))
set_option maxRecDepth 100000 in
theorem lwm_1287 : (.constantLong RX5 170 (-9223372036854775808) : Cond) ∈ lw_tbl := tb_8 _ (List.mem_of_getElem? (i := 36) (by decide +kernel))
set_option maxRecDepth 100000 in
theorem lwm_1288 : (.code yX5_stop cX5_stop 2 none : Cond) ∈ lw_tbl := tb_7 _ (List.mem_of_getElem? (i := 211) (by decide +kernel))
set_option maxRecDepth 100000 in
theorem lwm_1289 : (.methodLink RX5 172 yX5_stop : Cond) ∈ lw_tbl := tb_7 _ (List.mem_of_getElem? (i := 208) (by decide +kernel))
set_option maxRecDepth 100000 in
theorem lwm_1290 : (.instanceMethod yX5_stop : Cond) ∈ lw_tbl := tb_7 _ (List.mem_of_getElem? (i := 210) (by decide +kernel))
set_option maxRecDepth 100000 in
theorem lwm_1291 : (.selects RX5 yX5_stop yX5_stop : Cond) ∈ lw_tbl := List.mem_append_left _ (List.mem_of_getElem? (i := 128) (by decide +kernel))
set_option maxRecDepth 100000 in
theorem lwm_1292 : (.code yX5_operate cX5_operate 6 none : Cond) ∈ lw_tbl := tb_8 _ (List.mem_of_getElem? (i := 30) (by decide +kernel))
set_option maxRecDepth 100000 in
theorem lwm_1293 : (.code yX5_resultOf cX5_resultOf 5 (some .long) : Cond) ∈ lw_tbl := tb_8 _ (List.mem_of_getElem? (i := 39) (by decide +kernel))
set_option maxRecDepth 100000 in
theorem lwm_1294 : (.methodLink RX5 198 yX5_resultOf : Cond) ∈ lw_tbl := tb_8 _ (List.mem_of_getElem? (i := 37) (by decide +kernel))
set_option maxRecDepth 100000 in
theorem lwm_1295 : (.static yX5_resultOf : Cond) ∈ lw_tbl := tb_8 _ (List.mem_of_getElem? (i := 38) (by decide +kernel))
set_option maxRecDepth 100000 in
theorem lwm_1296 : (.code yX5_isBeyond cX5_isBeyond 7 (some .boolean) : Cond) ∈ lw_tbl := tb_8 _ (List.mem_of_getElem? (i := 34) (by decide +kernel))
set_option maxRecDepth 100000 in
theorem lwm_1297 : (.constantLong RX5 202 (-1) : Cond) ∈ lw_tbl := tb_8 _ (List.mem_of_getElem? (i := 35) (by decide +kernel))
set_option maxRecDepth 100000 in
theorem lwm_1298 : (.methodLink RX5 194 yX5_isBeyond : Cond) ∈ lw_tbl := tb_8 _ (List.mem_of_getElem? (i := 32) (by decide +kernel))
set_option maxRecDepth 100000 in
theorem lwm_1299 : (.static yX5_isBeyond : Cond) ∈ lw_tbl := tb_8 _ (List.mem_of_getElem? (i := 33) (by decide +kernel))
set_option maxRecDepth 100000 in
theorem lwm_1300 : (.methodLink RX5 158 yX5_operate : Cond) ∈ lw_tbl := tb_8 _ (List.mem_of_getElem? (i := 27) (by decide +kernel))
set_option maxRecDepth 100000 in
theorem lwm_1301 : (.instanceMethod yX5_operate : Cond) ∈ lw_tbl := tb_8 _ (List.mem_of_getElem? (i := 29) (by decide +kernel))
set_option maxRecDepth 100000 in
theorem lwm_1302 : (.selects RX5 yX5_operate yX5_operate : Cond) ∈ lw_tbl := List.mem_append_left _ (List.mem_of_getElem? (i := 135) (by decide +kernel))
set_option maxRecDepth 100000 in
theorem lwm_1303 : (.code yX5_box cX5_box 3 none : Cond) ∈ lw_tbl := tb_8 _ (List.mem_of_getElem? (i := 43) (by decide +kernel))
set_option maxRecDepth 100000 in
theorem lwm_1304 : (.code yX6_takeBlock cX6_takeBlock 5 (some .int) : Cond) ∈ lw_tbl := tb_8 _ (List.mem_of_getElem? (i := 47) (by decide +kernel))
set_option maxRecDepth 100000 in
theorem lwm_1305 : (.fieldLink RX6 29 "OwnedPlaces$Memory" "heap" "I" : Cond) ∈ lw_tbl := tb_4 _ (List.mem_of_getElem? (i := 3) (by decide +kernel))
set_option maxRecDepth 100000 in
theorem lwm_1306 : (.methodLink RX6 56 Lib.Math.max.name : Cond) ∈ lw_tbl := tb_7 _ (List.mem_of_getElem? (i := 216) (by decide +kernel))
set_option maxRecDepth 100000 in
theorem lwm_1307 : (.methodLink RX5 188 yX6_takeBlock : Cond) ∈ lw_tbl := tb_8 _ (List.mem_of_getElem? (i := 44) (by decide +kernel))
set_option maxRecDepth 100000 in
theorem lwm_1308 : (.instanceMethod yX6_takeBlock : Cond) ∈ lw_tbl := tb_8 _ (List.mem_of_getElem? (i := 45) (by decide +kernel))
set_option maxRecDepth 100000 in
theorem lwm_1309 : (.selects RX6 yX6_takeBlock yX6_takeBlock : Cond) ∈ lw_tbl := tb_8 _ (List.mem_of_getElem? (i := 46) (by decide +kernel))
set_option maxRecDepth 100000 in
theorem lwm_1310 : (.code yX5_popTo cX5_popTo 3 none : Cond) ∈ lw_tbl := tb_8 _ (List.mem_of_getElem? (i := 51) (by decide +kernel))
set_option maxRecDepth 100000 in
theorem lwm_1311 : (.methodLink RX5 167 yX5_popTo : Cond) ∈ lw_tbl := tb_8 _ (List.mem_of_getElem? (i := 48) (by decide +kernel))
set_option maxRecDepth 100000 in
theorem lwm_1312 : (.instanceMethod yX5_popTo : Cond) ∈ lw_tbl := tb_8 _ (List.mem_of_getElem? (i := 50) (by decide +kernel))
set_option maxRecDepth 100000 in
theorem lwm_1313 : (.selects RX5 yX5_popTo yX5_popTo : Cond) ∈ lw_tbl := List.mem_append_left _ (List.mem_of_getElem? (i := 137) (by decide +kernel))
set_option maxRecDepth 100000 in
theorem lwm_1314 : (.methodLink RX5 161 yX5_box : Cond) ∈ lw_tbl := tb_8 _ (List.mem_of_getElem? (i := 40) (by decide +kernel))
set_option maxRecDepth 100000 in
theorem lwm_1315 : (.instanceMethod yX5_box : Cond) ∈ lw_tbl := tb_8 _ (List.mem_of_getElem? (i := 42) (by decide +kernel))
set_option maxRecDepth 100000 in
theorem lwm_1316 : (.selects RX5 yX5_box yX5_box : Cond) ∈ lw_tbl := List.mem_append_left _ (List.mem_of_getElem? (i := 136) (by decide +kernel))
set_option maxRecDepth 100000 in
theorem lwm_1317 : (.fieldLink RX5 164 "OwnedPlaces$Code" "c" "[I" : Cond) ∈ lw_tbl := tb_2 _ (List.mem_of_getElem? (i := 239) (by decide +kernel))
set_option maxRecDepth 100000 in
theorem lwm_1318 : (.methodLink RX5 89 yX5_workOnValues : Cond) ∈ lw_tbl := tb_7 _ (List.mem_of_getElem? (i := 232) (by decide +kernel))
set_option maxRecDepth 100000 in
theorem lwm_1319 : (.instanceMethod yX5_workOnValues : Cond) ∈ lw_tbl := tb_7 _ (List.mem_of_getElem? (i := 234) (by decide +kernel))
set_option maxRecDepth 100000 in
theorem lwm_1320 : (.selects RX5 yX5_workOnValues yX5_workOnValues : Cond) ∈ lw_tbl := List.mem_append_left _ (List.mem_of_getElem? (i := 130) (by decide +kernel))
set_option maxRecDepth 100000 in
theorem lwm_1321 : (.code yX5_workOnVariables cX5_workOnVariables 5 none : Cond) ∈ lw_tbl := tb_8 _ (List.mem_of_getElem? (i := 99) (by decide +kernel))
set_option maxRecDepth 100000 in
theorem lwm_1322 : (.code yX5_fill cX5_fill 2 none : Cond) ∈ lw_tbl := tb_8 _ (List.mem_of_getElem? (i := 103) (by decide +kernel))
set_option maxRecDepth 100000 in
theorem lwm_1323 : (.fieldLink RX5 245 "OwnedPlaces$Function" "type" "[I" : Cond) ∈ lw_tbl := tb_2 _ (List.mem_of_getElem? (i := 112) (by decide +kernel))
set_option maxRecDepth 100000 in
theorem lwm_1324 : (.code yX5_cellsOf cX5_cellsOf 2 (some .int) : Cond) ∈ lw_tbl := tb_7 _ (List.mem_of_getElem? (i := 230) (by decide +kernel))
set_option maxRecDepth 100000 in
theorem lwm_1325 : (.methodLink RX5 242 yX5_cellsOf : Cond) ∈ lw_tbl := tb_7 _ (List.mem_of_getElem? (i := 227) (by decide +kernel))
set_option maxRecDepth 100000 in
theorem lwm_1326 : (.instanceMethod yX5_cellsOf : Cond) ∈ lw_tbl := tb_7 _ (List.mem_of_getElem? (i := 229) (by decide +kernel))
set_option maxRecDepth 100000 in
theorem lwm_1327 : (.selects RX5 yX5_cellsOf yX5_cellsOf : Cond) ∈ lw_tbl := List.mem_append_left _ (List.mem_of_getElem? (i := 129) (by decide +kernel))
set_option maxRecDepth 100000 in
theorem lwm_1328 : (.methodLink RX5 261 yX5_fill : Cond) ∈ lw_tbl := tb_8 _ (List.mem_of_getElem? (i := 100) (by decide +kernel))
set_option maxRecDepth 100000 in
theorem lwm_1329 : (.instanceMethod yX5_fill : Cond) ∈ lw_tbl := tb_8 _ (List.mem_of_getElem? (i := 102) (by decide +kernel))
set_option maxRecDepth 100000 in
theorem lwm_1330 : (.selects RX5 yX5_fill yX5_fill : Cond) ∈ lw_tbl := List.mem_append_left _ (List.mem_of_getElem? (i := 145) (by decide +kernel))
set_option maxRecDepth 100000 in
theorem lwm_1331 : (.code yX5_assign cX5_assign 8 none : Cond) ∈ lw_tbl := tb_8 _ (List.mem_of_getElem? (i := 107) (by decide +kernel))
set_option maxRecDepth 100000 in
theorem lwm_1332 : (.constant RX5 270 65535 : Cond) ∈ lw_tbl := tb_8 _ (List.mem_of_getElem? (i := 108) (by decide +kernel))
set_option maxRecDepth 100000 in
theorem lwm_1333 : (.code yX6_drop cX6_drop 9 none : Cond) ∈ lw_tbl := tb_8 _ (List.mem_of_getElem? (i := 71) (by decide +kernel))
set_option maxRecDepth 100000 in
theorem lwm_1334 : (.fieldLink RX6 72 "OwnedPlaces$Memory" "dropTotal" "I" : Cond) ∈ lw_tbl := tb_4 _ (List.mem_of_getElem? (i := 15) (by decide +kernel))
set_option maxRecDepth 100000 in
theorem lwm_1335 : (.code yX6_pushDrop cX6_pushDrop 4 none : Cond) ∈ lw_tbl := tb_8 _ (List.mem_of_getElem? (i := 75) (by decide +kernel))
set_option maxRecDepth 100000 in
theorem lwm_1336 : (.fieldLink RX6 21 "OwnedPlaces$Memory" "types" "LOwnedPlaces$Types;" : Cond) ∈ lw_tbl := tb_4 _ (List.mem_of_getElem? (i := 1) (by decide +kernel))
set_option maxRecDepth 100000 in
theorem lwm_1337 : (.fieldLink RX6 116 "OwnedPlaces$Types" "drops" "[Z" : Cond) ∈ lw_tbl := tb_2 _ (List.mem_of_getElem? (i := 6) (by decide +kernel))
set_option maxRecDepth 100000 in
theorem lwm_1338 : (.fieldLink RX6 9 "OwnedPlaces$Memory" "dropType" "[I" : Cond) ∈ lw_tbl := tb_4 _ (List.mem_of_getElem? (i := 12) (by decide +kernel))
set_option maxRecDepth 100000 in
theorem lwm_1339 : (.fieldLink RX6 15 "OwnedPlaces$Memory" "dropAt" "[I" : Cond) ∈ lw_tbl := tb_4 _ (List.mem_of_getElem? (i := 13) (by decide +kernel))
set_option maxRecDepth 100000 in
theorem lwm_1340 : (.fieldLink RX6 18 "OwnedPlaces$Memory" "dropCells" "[I" : Cond) ∈ lw_tbl := tb_4 _ (List.mem_of_getElem? (i := 14) (by decide +kernel))
set_option maxRecDepth 100000 in
theorem lwm_1341 : (.methodLink RX6 75 yX6_pushDrop : Cond) ∈ lw_tbl := tb_8 _ (List.mem_of_getElem? (i := 72) (by decide +kernel))
set_option maxRecDepth 100000 in
theorem lwm_1342 : (.instanceMethod yX6_pushDrop : Cond) ∈ lw_tbl := tb_8 _ (List.mem_of_getElem? (i := 74) (by decide +kernel))
set_option maxRecDepth 100000 in
theorem lwm_1343 : (.selects RX6 yX6_pushDrop yX6_pushDrop : Cond) ∈ lw_tbl := List.mem_append_left _ (List.mem_of_getElem? (i := 142) (by decide +kernel))
set_option maxRecDepth 100000 in
theorem lwm_1344 : (.constant RX6 79 1000000 : Cond) ∈ lw_tbl := tb_8 _ (List.mem_of_getElem? (i := 76) (by decide +kernel))
set_option maxRecDepth 100000 in
theorem lwm_1345 : (.fieldLink RX6 80 "OwnedPlaces$Types" "kind" "[I" : Cond) ∈ lw_tbl := tb_1 _ (List.mem_of_getElem? (i := 234) (by decide +kernel))
set_option maxRecDepth 100000 in
theorem lwm_1346 : (.methodLink RX6 85 yX10_rowOf : Cond) ∈ lw_tbl := tb_8 _ (List.mem_of_getElem? (i := 77) (by decide +kernel))
set_option maxRecDepth 100000 in
theorem lwm_1347 : (.code yX6_dropParts cX6_dropParts 7 none : Cond) ∈ lw_tbl := tb_8 _ (List.mem_of_getElem? (i := 81) (by decide +kernel))
set_option maxRecDepth 100000 in
theorem lwm_1348 : (.fieldLink RX6 120 "OwnedPlaces$Types" "parts" "[I" : Cond) ∈ lw_tbl := tb_2 _ (List.mem_of_getElem? (i := 19) (by decide +kernel))
set_option maxRecDepth 100000 in
theorem lwm_1349 : (.fieldLink RX6 123 "OwnedPlaces$Types" "partOffset" "[I" : Cond) ∈ lw_tbl := tb_2 _ (List.mem_of_getElem? (i := 26) (by decide +kernel))
set_option maxRecDepth 100000 in
theorem lwm_1350 : (.fieldLink RX6 126 "OwnedPlaces$Types" "partType" "[I" : Cond) ∈ lw_tbl := tb_2 _ (List.mem_of_getElem? (i := 23) (by decide +kernel))
set_option maxRecDepth 100000 in
theorem lwm_1351 : (.methodLink RX6 88 yX6_dropParts : Cond) ∈ lw_tbl := tb_8 _ (List.mem_of_getElem? (i := 78) (by decide +kernel))
set_option maxRecDepth 100000 in
theorem lwm_1352 : (.instanceMethod yX6_dropParts : Cond) ∈ lw_tbl := tb_8 _ (List.mem_of_getElem? (i := 80) (by decide +kernel))
set_option maxRecDepth 100000 in
theorem lwm_1353 : (.selects RX6 yX6_dropParts yX6_dropParts : Cond) ∈ lw_tbl := List.mem_append_left _ (List.mem_of_getElem? (i := 143) (by decide +kernel))
set_option maxRecDepth 100000 in
theorem lwm_1354 : (.fieldLink RX6 33 "OwnedPlaces$Memory" "cells" "[J" : Cond) ∈ lw_tbl := tb_4 _ (List.mem_of_getElem? (i := 4) (by decide +kernel))
set_option maxRecDepth 100000 in
theorem lwm_1355 : (.constant RX6 91 65535 : Cond) ∈ lw_tbl := tb_8 _ (List.mem_of_getElem? (i := 82) (by decide +kernel))
set_option maxRecDepth 100000 in
theorem lwm_1356 : (.fieldLink RX6 25 "OwnedPlaces$Memory" "waiting" "LOwnedPlaces$Queue;" : Cond) ∈ lw_tbl := tb_4 _ (List.mem_of_getElem? (i := 2) (by decide +kernel))
set_option maxRecDepth 100000 in
theorem lwm_1357 : (.constantLong RX6 92 100 : Cond) ∈ lw_tbl := tb_8 _ (List.mem_of_getElem? (i := 83) (by decide +kernel))
set_option maxRecDepth 100000 in
theorem lwm_1358 : (.methodLink RX6 94 yX8_put : Cond) ∈ lw_tbl := tb_8 _ (List.mem_of_getElem? (i := 84) (by decide +kernel))
set_option maxRecDepth 100000 in
theorem lwm_1359 : (.code yX8_putNumber cX8_putNumber 7 none : Cond) ∈ lw_tbl := tb_8 _ (List.mem_of_getElem? (i := 88) (by decide +kernel))
set_option maxRecDepth 100000 in
theorem lwm_1360 : (.fieldLink RX8 7 "OwnedPlaces$Queue" "digits" "[B" : Cond) ∈ lw_tbl := tb_3 _ (List.mem_of_getElem? (i := 222) (by decide +kernel))
set_option maxRecDepth 100000 in
theorem lwm_1361 : (.constantLong RX8 38 48 : Cond) ∈ lw_tbl := tb_8 _ (List.mem_of_getElem? (i := 89) (by decide +kernel))
set_option maxRecDepth 100000 in
theorem lwm_1362 : (.constantLong RX8 40 10 : Cond) ∈ lw_tbl := tb_8 _ (List.mem_of_getElem? (i := 90) (by decide +kernel))
set_option maxRecDepth 100000 in
theorem lwm_1363 : (.methodLink RX8 34 yX8_put : Cond) ∈ lw_tbl := tb_8 _ (List.mem_of_getElem? (i := 92) (by decide +kernel))
set_option maxRecDepth 100000 in
theorem lwm_1364 : (.constantLong RX8 42 45 : Cond) ∈ lw_tbl := tb_8 _ (List.mem_of_getElem? (i := 91) (by decide +kernel))
set_option maxRecDepth 100000 in
theorem lwm_1365 : (.methodLink RX6 100 yX8_putNumber : Cond) ∈ lw_tbl := tb_8 _ (List.mem_of_getElem? (i := 85) (by decide +kernel))
set_option maxRecDepth 100000 in
theorem lwm_1366 : (.instanceMethod yX8_putNumber : Cond) ∈ lw_tbl := tb_8 _ (List.mem_of_getElem? (i := 86) (by decide +kernel))
set_option maxRecDepth 100000 in
theorem lwm_1367 : (.selects RX8 yX8_putNumber yX8_putNumber : Cond) ∈ lw_tbl := tb_8 _ (List.mem_of_getElem? (i := 87) (by decide +kernel))
set_option maxRecDepth 100000 in
theorem lwm_1368 : (.constantLong RX6 104 10 : Cond) ∈ lw_tbl := tb_8 _ (List.mem_of_getElem? (i := 93) (by decide +kernel))
set_option maxRecDepth 100000 in
theorem lwm_1369 : (.fieldLink RX6 106 "OwnedPlaces$Types" "size" "[I" : Cond) ∈ lw_tbl := tb_2 _ (List.mem_of_getElem? (i := 2) (by decide +kernel))
set_option maxRecDepth 100000 in
theorem lwm_1370 : (.fieldLink RX6 109 "OwnedPlaces$Types" "of" "[I" : Cond) ∈ lw_tbl := tb_1 _ (List.mem_of_getElem? (i := 237) (by decide +kernel))
set_option maxRecDepth 100000 in
theorem lwm_1371 : (.methodLink RX6 112 yX6_freeBlock : Cond) ∈ lw_tbl := tb_8 _ (List.mem_of_getElem? (i := 94) (by decide +kernel))
set_option maxRecDepth 100000 in
theorem lwm_1372 : (.methodLink RX5 257 yX6_drop : Cond) ∈ lw_tbl := tb_8 _ (List.mem_of_getElem? (i := 68) (by decide +kernel))
set_option maxRecDepth 100000 in
theorem lwm_1373 : (.instanceMethod yX6_drop : Cond) ∈ lw_tbl := tb_8 _ (List.mem_of_getElem? (i := 69) (by decide +kernel))
set_option maxRecDepth 100000 in
theorem lwm_1374 : (.selects RX6 yX6_drop yX6_drop : Cond) ∈ lw_tbl := tb_8 _ (List.mem_of_getElem? (i := 70) (by decide +kernel))
set_option maxRecDepth 100000 in
theorem lwm_1375 : (.methodLink RX5 264 yX5_assign : Cond) ∈ lw_tbl := tb_8 _ (List.mem_of_getElem? (i := 104) (by decide +kernel))
set_option maxRecDepth 100000 in
theorem lwm_1376 : (.instanceMethod yX5_assign : Cond) ∈ lw_tbl := tb_8 _ (List.mem_of_getElem? (i := 106) (by decide +kernel))
set_option maxRecDepth 100000 in
theorem lwm_1377 : (.selects RX5 yX5_assign yX5_assign : Cond) ∈ lw_tbl := List.mem_append_left _ (List.mem_of_getElem? (i := 146) (by decide +kernel))
set_option maxRecDepth 100000 in
theorem lwm_1378 : (.code yX5_print cX5_print 4 none : Cond) ∈ lw_tbl := tb_8 _ (List.mem_of_getElem? (i := 112) (by decide +kernel))
set_option maxRecDepth 100000 in
theorem lwm_1379 : (.fieldLink RX5 47 "OwnedPlaces$Machine" "waiting" "LOwnedPlaces$Queue;" : Cond) ∈ lw_tbl := tb_4 _ (List.mem_of_getElem? (i := 53) (by decide +kernel))
set_option maxRecDepth 100000 in
theorem lwm_1380 : (.methodLink RX5 271 yX8_putNumber : Cond) ∈ lw_tbl := tb_8 _ (List.mem_of_getElem? (i := 113) (by decide +kernel))
set_option maxRecDepth 100000 in
theorem lwm_1381 : (.constantLong RX5 282 10 : Cond) ∈ lw_tbl := tb_8 _ (List.mem_of_getElem? (i := 122) (by decide +kernel))
set_option maxRecDepth 100000 in
theorem lwm_1382 : (.methodLink RX5 284 yX8_put : Cond) ∈ lw_tbl := tb_8 _ (List.mem_of_getElem? (i := 123) (by decide +kernel))
set_option maxRecDepth 100000 in
theorem lwm_1383 : (.code yX8_putText cX8_putText 3 none : Cond) ∈ lw_tbl := tb_8 _ (List.mem_of_getElem? (i := 119) (by decide +kernel))
set_option maxRecDepth 100000 in
theorem lwm_1384 : (.methodLink RX8 24 yJ0_length_8abf5 : Cond) ∈ lw_tbl := tb_8 _ (List.mem_of_getElem? (i := 120) (by decide +kernel))
set_option maxRecDepth 100000 in
theorem lwm_1385 : (.methodLink RX8 30 yJ0_charAt_5068e : Cond) ∈ lw_tbl := tb_8 _ (List.mem_of_getElem? (i := 121) (by decide +kernel))
set_option maxRecDepth 100000 in
theorem lwm_1386 : (.methodLink RX5 278 yX8_putText : Cond) ∈ lw_tbl := tb_8 _ (List.mem_of_getElem? (i := 116) (by decide +kernel))
set_option maxRecDepth 100000 in
theorem lwm_1387 : (.instanceMethod yX8_putText : Cond) ∈ lw_tbl := tb_8 _ (List.mem_of_getElem? (i := 117) (by decide +kernel))
set_option maxRecDepth 100000 in
theorem lwm_1388 : (.selects RX8 yX8_putText yX8_putText : Cond) ∈ lw_tbl := tb_8 _ (List.mem_of_getElem? (i := 118) (by decide +kernel))
set_option maxRecDepth 100000 in
theorem lwm_1389 : (.methodLink RX5 267 yX5_print : Cond) ∈ lw_tbl := tb_8 _ (List.mem_of_getElem? (i := 109) (by decide +kernel))
set_option maxRecDepth 100000 in
theorem lwm_1390 : (.instanceMethod yX5_print : Cond) ∈ lw_tbl := tb_8 _ (List.mem_of_getElem? (i := 111) (by decide +kernel))
set_option maxRecDepth 100000 in
theorem lwm_1391 : (.selects RX5 yX5_print yX5_print : Cond) ∈ lw_tbl := List.mem_append_left _ (List.mem_of_getElem? (i := 147) (by decide +kernel))
set_option maxRecDepth 100000 in
theorem lwm_1392 : (.code yX5_dropVariables cX5_dropVariables 5 none : Cond) ∈ lw_tbl := tb_8 _ (List.mem_of_getElem? (i := 67) (by decide +kernel))
set_option maxRecDepth 100000 in
theorem lwm_1393 : (.methodLink RX5 248 yX5_dropVariables : Cond) ∈ lw_tbl := tb_8 _ (List.mem_of_getElem? (i := 64) (by decide +kernel))
set_option maxRecDepth 100000 in
theorem lwm_1394 : (.instanceMethod yX5_dropVariables : Cond) ∈ lw_tbl := tb_8 _ (List.mem_of_getElem? (i := 66) (by decide +kernel))
set_option maxRecDepth 100000 in
theorem lwm_1395 : (.selects RX5 yX5_dropVariables yX5_dropVariables : Cond) ∈ lw_tbl := List.mem_append_left _ (List.mem_of_getElem? (i := 141) (by decide +kernel))
set_option maxRecDepth 100000 in
theorem lwm_1396 : (.methodLink RX5 95 yX5_workOnVariables : Cond) ∈ lw_tbl := tb_8 _ (List.mem_of_getElem? (i := 96) (by decide +kernel))
set_option maxRecDepth 100000 in
theorem lwm_1397 : (.instanceMethod yX5_workOnVariables : Cond) ∈ lw_tbl := tb_8 _ (List.mem_of_getElem? (i := 98) (by decide +kernel))
set_option maxRecDepth 100000 in
theorem lwm_1398 : (.selects RX5 yX5_workOnVariables yX5_workOnVariables : Cond) ∈ lw_tbl := List.mem_append_left _ (List.mem_of_getElem? (i := 144) (by decide +kernel))
set_option maxRecDepth 100000 in
theorem lwm_1399 : (.code yX5_go cX5_go 7 none : Cond) ∈ lw_tbl := tb_8 _ (List.mem_of_getElem? (i := 55) (by decide +kernel))
set_option maxRecDepth 100000 in
theorem lwm_1400 : (.code yX5_burn cX5_burn 1 (some .boolean) : Cond) ∈ lw_tbl := tb_7 _ (List.mem_of_getElem? (i := 207) (by decide +kernel))
set_option maxRecDepth 100000 in
theorem lwm_1401 : (.fieldLink RX5 50 "OwnedPlaces$Machine" "fuel" "I" : Cond) ∈ lw_tbl := tb_4 _ (List.mem_of_getElem? (i := 54) (by decide +kernel))
set_option maxRecDepth 100000 in
theorem lwm_1402 : (.methodLink RX5 213 yX5_burn : Cond) ∈ lw_tbl := tb_7 _ (List.mem_of_getElem? (i := 204) (by decide +kernel))
set_option maxRecDepth 100000 in
theorem lwm_1403 : (.instanceMethod yX5_burn : Cond) ∈ lw_tbl := tb_7 _ (List.mem_of_getElem? (i := 206) (by decide +kernel))
set_option maxRecDepth 100000 in
theorem lwm_1404 : (.selects RX5 yX5_burn yX5_burn : Cond) ∈ lw_tbl := List.mem_append_left _ (List.mem_of_getElem? (i := 127) (by decide +kernel))
set_option maxRecDepth 100000 in
theorem lwm_1405 : (.fieldLink RX5 204 "OwnedPlaces$Code" "labelAt" "[I" : Cond) ∈ lw_tbl := tb_3 _ (List.mem_of_getElem? (i := 5) (by decide +kernel))
set_option maxRecDepth 100000 in
theorem lwm_1406 : (.code yX5_shortcut cX5_shortcut 3 none : Cond) ∈ lw_tbl := tb_8 _ (List.mem_of_getElem? (i := 59) (by decide +kernel))
set_option maxRecDepth 100000 in
theorem lwm_1407 : (.methodLink RX5 207 yX5_shortcut : Cond) ∈ lw_tbl := tb_8 _ (List.mem_of_getElem? (i := 56) (by decide +kernel))
set_option maxRecDepth 100000 in
theorem lwm_1408 : (.instanceMethod yX5_shortcut : Cond) ∈ lw_tbl := tb_8 _ (List.mem_of_getElem? (i := 58) (by decide +kernel))
set_option maxRecDepth 100000 in
theorem lwm_1409 : (.selects RX5 yX5_shortcut yX5_shortcut : Cond) ∈ lw_tbl := List.mem_append_left _ (List.mem_of_getElem? (i := 139) (by decide +kernel))
set_option maxRecDepth 100000 in
theorem lwm_1410 : (.fieldLink RX5 217 "OwnedPlaces$Code" "armLabels" "[I" : Cond) ∈ lw_tbl := tb_3 _ (List.mem_of_getElem? (i := 33) (by decide +kernel))
set_option maxRecDepth 100000 in
theorem lwm_1411 : (.methodLink RX5 92 yX5_go : Cond) ∈ lw_tbl := tb_8 _ (List.mem_of_getElem? (i := 52) (by decide +kernel))
set_option maxRecDepth 100000 in
theorem lwm_1412 : (.instanceMethod yX5_go : Cond) ∈ lw_tbl := tb_8 _ (List.mem_of_getElem? (i := 54) (by decide +kernel))
set_option maxRecDepth 100000 in
theorem lwm_1413 : (.selects RX5 yX5_go yX5_go : Cond) ∈ lw_tbl := List.mem_append_left _ (List.mem_of_getElem? (i := 138) (by decide +kernel))
set_option maxRecDepth 100000 in
theorem lwm_1414 : (.code yX5_call cX5_call 3 none : Cond) ∈ lw_tbl := tb_7 _ (List.mem_of_getElem? (i := 203) (by decide +kernel))
set_option maxRecDepth 100000 in
theorem lwm_1415 : (.fieldLink RX5 61 "OwnedPlaces$Machine" "calls" "I" : Cond) ∈ lw_tbl := tb_4 _ (List.mem_of_getElem? (i := 61) (by decide +kernel))
set_option maxRecDepth 100000 in
theorem lwm_1416 : (.fieldLink RX5 11 "OwnedPlaces$Machine" "callers" "[LOwnedPlaces$Function;" : Cond) ∈ lw_tbl := tb_4 _ (List.mem_of_getElem? (i := 63) (by decide +kernel))
set_option maxRecDepth 100000 in
theorem lwm_1417 : (.fieldLink RX5 17 "OwnedPlaces$Machine" "callerNext" "[I" : Cond) ∈ lw_tbl := tb_4 _ (List.mem_of_getElem? (i := 64) (by decide +kernel))
set_option maxRecDepth 100000 in
theorem lwm_1418 : (.fieldLink RX5 21 "OwnedPlaces$Machine" "callerBase" "[I" : Cond) ∈ lw_tbl := tb_4 _ (List.mem_of_getElem? (i := 65) (by decide +kernel))
set_option maxRecDepth 100000 in
theorem lwm_1419 : (.fieldLink RX5 35 "OwnedPlaces$Machine" "declared" "LOwnedPlaces$Declarations;" : Cond) ∈ lw_tbl := tb_4 _ (List.mem_of_getElem? (i := 50) (by decide +kernel))
set_option maxRecDepth 100000 in
theorem lwm_1420 : (.fieldLink RX5 220 "OwnedPlaces$Declarations" "functions" "[LOwnedPlaces$Function;" : Cond) ∈ lw_tbl := tb_2 _ (List.mem_of_getElem? (i := 193) (by decide +kernel))
set_option maxRecDepth 100000 in
theorem lwm_1421 : (.fieldLink RX5 225 "OwnedPlaces$Function" "codeFrom" "I" : Cond) ∈ lw_tbl := tb_2 _ (List.mem_of_getElem? (i := 129) (by decide +kernel))
set_option maxRecDepth 100000 in
theorem lwm_1422 : (.fieldLink RX5 228 "OwnedPlaces$Function" "argumentCells" "I" : Cond) ∈ lw_tbl := tb_2 _ (List.mem_of_getElem? (i := 93) (by decide +kernel))
set_option maxRecDepth 100000 in
theorem lwm_1423 : (.fieldLink RX5 231 "OwnedPlaces$Function" "cells" "I" : Cond) ∈ lw_tbl := tb_2 _ (List.mem_of_getElem? (i := 125) (by decide +kernel))
set_option maxRecDepth 100000 in
theorem lwm_1424 : (.code yX6_makeRoom cX6_makeRoom 2 none : Cond) ∈ lw_tbl := tb_7 _ (List.mem_of_getElem? (i := 215) (by decide +kernel))
set_option maxRecDepth 100000 in
theorem lwm_1425 : (.code yJ7_copyOf_c38d5 cJ7_copyOf_c38d5 3 (some (.array .long)) : Cond) ∈ lw_tbl := tb_7 _ (List.mem_of_getElem? (i := 219) (by decide +kernel))
set_option maxRecDepth 100000 in
theorem lwm_1426 : (.arrayClass .long : Cond) ∈ lw_tbl := tb_1 _ (List.mem_of_getElem? (i := 194) (by decide +kernel))
set_option maxRecDepth 100000 in
theorem lwm_1427 : (.methodLink RJ7 304 Lib.Math.min.name : Cond) ∈ lw_tbl := tb_7 _ (List.mem_of_getElem? (i := 225) (by decide +kernel))
set_option maxRecDepth 100000 in
theorem lwm_1428 : (.methodLink RJ7 150 arraycopyName : Cond) ∈ lw_tbl := tb_7 _ (List.mem_of_getElem? (i := 226) (by decide +kernel))
set_option maxRecDepth 100000 in
theorem lwm_1429 : (.methodLink RX6 62 yJ7_copyOf_c38d5 : Cond) ∈ lw_tbl := tb_7 _ (List.mem_of_getElem? (i := 217) (by decide +kernel))
set_option maxRecDepth 100000 in
theorem lwm_1430 : (.static yJ7_copyOf_c38d5 : Cond) ∈ lw_tbl := tb_7 _ (List.mem_of_getElem? (i := 218) (by decide +kernel))
set_option maxRecDepth 100000 in
theorem lwm_1431 : (.methodLink RX5 233 yX6_makeRoom : Cond) ∈ lw_tbl := tb_7 _ (List.mem_of_getElem? (i := 212) (by decide +kernel))
set_option maxRecDepth 100000 in
theorem lwm_1432 : (.instanceMethod yX6_makeRoom : Cond) ∈ lw_tbl := tb_7 _ (List.mem_of_getElem? (i := 213) (by decide +kernel))
set_option maxRecDepth 100000 in
theorem lwm_1433 : (.selects RX6 yX6_makeRoom yX6_makeRoom : Cond) ∈ lw_tbl := tb_7 _ (List.mem_of_getElem? (i := 214) (by decide +kernel))
set_option maxRecDepth 100000 in
theorem lwm_1434 : (.fieldLink RX5 236 "OwnedPlaces$Function" "variables" "I" : Cond) ∈ lw_tbl := tb_2 _ (List.mem_of_getElem? (i := 105) (by decide +kernel))
set_option maxRecDepth 100000 in
theorem lwm_1435 : (.fieldLink RX5 239 "OwnedPlaces$Function" "parameters" "I" : Cond) ∈ lw_tbl := tb_2 _ (List.mem_of_getElem? (i := 88) (by decide +kernel))
set_option maxRecDepth 100000 in
theorem lwm_1436 : (.methodLink RX5 76 yX5_call : Cond) ∈ lw_tbl := tb_7 _ (List.mem_of_getElem? (i := 200) (by decide +kernel))
set_option maxRecDepth 100000 in
theorem lwm_1437 : (.instanceMethod yX5_call : Cond) ∈ lw_tbl := tb_7 _ (List.mem_of_getElem? (i := 202) (by decide +kernel))
set_option maxRecDepth 100000 in
theorem lwm_1438 : (.selects RX5 yX5_call yX5_call : Cond) ∈ lw_tbl := List.mem_append_left _ (List.mem_of_getElem? (i := 126) (by decide +kernel))
set_option maxRecDepth 100000 in
theorem lwm_1439 : (.code yX5_giveBack cX5_giveBack 3 none : Cond) ∈ lw_tbl := tb_8 _ (List.mem_of_getElem? (i := 63) (by decide +kernel))
set_option maxRecDepth 100000 in
theorem lwm_1440 : (.methodLink RX5 251 Lib.Math.max.name : Cond) ∈ lw_tbl := tb_8 _ (List.mem_of_getElem? (i := 95) (by decide +kernel))
set_option maxRecDepth 100000 in
theorem lwm_1441 : (.methodLink RX5 210 yX5_giveBack : Cond) ∈ lw_tbl := tb_8 _ (List.mem_of_getElem? (i := 60) (by decide +kernel))
set_option maxRecDepth 100000 in
theorem lwm_1442 : (.instanceMethod yX5_giveBack : Cond) ∈ lw_tbl := tb_8 _ (List.mem_of_getElem? (i := 62) (by decide +kernel))
set_option maxRecDepth 100000 in
theorem lwm_1443 : (.selects RX5 yX5_giveBack yX5_giveBack : Cond) ∈ lw_tbl := List.mem_append_left _ (List.mem_of_getElem? (i := 140) (by decide +kernel))
set_option maxRecDepth 100000 in
theorem lwm_1444 : (.code yX6_stackBegin cX6_stackBegin 1 (some .int) : Cond) ∈ lw_tbl := tb_7 _ (List.mem_of_getElem? (i := 199) (by decide +kernel))
set_option maxRecDepth 100000 in
theorem lwm_1445 : (.methodLink RX5 64 yX6_stackBegin : Cond) ∈ lw_tbl := tb_7 _ (List.mem_of_getElem? (i := 196) (by decide +kernel))
set_option maxRecDepth 100000 in
theorem lwm_1446 : (.instanceMethod yX6_stackBegin : Cond) ∈ lw_tbl := tb_7 _ (List.mem_of_getElem? (i := 197) (by decide +kernel))
set_option maxRecDepth 100000 in
theorem lwm_1447 : (.selects RX6 yX6_stackBegin yX6_stackBegin : Cond) ∈ lw_tbl := tb_7 _ (List.mem_of_getElem? (i := 198) (by decide +kernel))
set_option maxRecDepth 100000 in
theorem lwm_1448 : (.methodLink RX12 137 yX5_execute : Cond) ∈ lw_tbl := tb_7 _ (List.mem_of_getElem? (i := 192) (by decide +kernel))
set_option maxRecDepth 100000 in
theorem lwm_1449 : (.instanceMethod yX5_execute : Cond) ∈ lw_tbl := tb_7 _ (List.mem_of_getElem? (i := 193) (by decide +kernel))
set_option maxRecDepth 100000 in
theorem lwm_1450 : (.selects RX5 yX5_execute yX5_execute : Cond) ∈ lw_tbl := tb_7 _ (List.mem_of_getElem? (i := 194) (by decide +kernel))
set_option maxRecDepth 100000 in
theorem lwm_1451 : (.fieldLink RX12 141 "OwnedPlaces$Machine" "fuel" "I" : Cond) ∈ lw_tbl := tb_4 _ (List.mem_of_getElem? (i := 55) (by decide +kernel))
set_option maxRecDepth 100000 in
theorem lwm_1452 : (.code yL_cell cL_cell 2 (some .int) : Cond) ∈ lw_tbl := tb_8 _ (List.mem_of_getElem? (i := 140) (by decide +kernel))
set_option maxRecDepth 100000 in
theorem lwm_1453 : (.code yX12_init cX12_init 3 none : Cond) ∈ lw_tbl := tb_1 _ (List.mem_of_getElem? (i := 36) (by decide +kernel))
set_option maxRecDepth 100000 in
theorem lwm_1454 : (.methodLink RX12 3 objectInit : Cond) ∈ lw_tbl := tb_1 _ (List.mem_of_getElem? (i := 37) (by decide +kernel))
set_option maxRecDepth 100000 in
theorem lwm_1455 : (.instanceMethod objectInit : Cond) ∈ lw_tbl := tb_1 _ (List.mem_of_getElem? (i := 38) (by decide +kernel))
set_option maxRecDepth 100000 in
theorem lwm_1456 : (.code objectInit ⟨#[0xb1]⟩ 1 none : Cond) ∈ lw_tbl := tb_1 _ (List.mem_of_getElem? (i := 39) (by decide +kernel))
set_option maxRecDepth 100000 in
theorem lwm_1457 : (.classLink RX12 9 RX9 : Cond) ∈ lw_tbl := tb_1 _ (List.mem_of_getElem? (i := 40) (by decide +kernel))
set_option maxRecDepth 100000 in
theorem lwm_1458 : (.code yX9_init cX9_init 4 none : Cond) ∈ lw_tbl := tb_1 _ (List.mem_of_getElem? (i := 44) (by decide +kernel))
set_option maxRecDepth 100000 in
theorem lwm_1459 : (.methodLink RX9 3 objectInit : Cond) ∈ lw_tbl := tb_1 _ (List.mem_of_getElem? (i := 45) (by decide +kernel))
set_option maxRecDepth 100000 in
theorem lwm_1460 : (.arrayClass .int : Cond) ∈ lw_tbl := tb_1 _ (List.mem_of_getElem? (i := 193) (by decide +kernel))
set_option maxRecDepth 100000 in
theorem lwm_1461 : (.arrayClass .byte : Cond) ∈ lw_tbl := tb_1 _ (List.mem_of_getElem? (i := 195) (by decide +kernel))
set_option maxRecDepth 100000 in
theorem lwm_1462 : (.code yJ7_fill_53178 cJ7_fill_53178 4 none : Cond) ∈ lw_tbl := tb_1 _ (List.mem_of_getElem? (i := 48) (by decide +kernel))
set_option maxRecDepth 100000 in
theorem lwm_1463 : (.methodLink RX9 51 yJ7_fill_53178 : Cond) ∈ lw_tbl := tb_1 _ (List.mem_of_getElem? (i := 46) (by decide +kernel))
set_option maxRecDepth 100000 in
theorem lwm_1464 : (.static yJ7_fill_53178 : Cond) ∈ lw_tbl := tb_1 _ (List.mem_of_getElem? (i := 47) (by decide +kernel))
set_option maxRecDepth 100000 in
theorem lwm_1465 : (.methodLink RX9 73 ⟨"[I", "clone", "()Ljava/lang/Object;"⟩ : Cond) ∈ lw_tbl := tb_1 _ (List.mem_of_getElem? (i := 113) (by decide +kernel))
set_option maxRecDepth 100000 in
theorem lwm_1466 : (.sameMethod "[I" "java/lang/Object" "clone" "()Ljava/lang/Object;" : Cond) ∈ lw_tbl := tb_1 _ (List.mem_of_getElem? (i := 114) (by decide +kernel))
set_option maxRecDepth 100000 in
theorem lwm_1467 : (.native ⟨"java/lang/Object", "clone", "()Ljava/lang/Object;"⟩ : Cond) ∈ lw_tbl := tb_1 _ (List.mem_of_getElem? (i := 115) (by decide +kernel))
set_option maxRecDepth 100000 in
theorem lwm_1468 : (.instanceMethod ⟨"java/lang/Object", "clone", "()Ljava/lang/Object;"⟩ : Cond) ∈ lw_tbl := tb_1 _ (List.mem_of_getElem? (i := 116) (by decide +kernel))
set_option maxRecDepth 100000 in
theorem lwm_1469 : (.selects "[I" ⟨"[I", "clone", "()Ljava/lang/Object;"⟩ ⟨"java/lang/Object", "clone", "()Ljava/lang/Object;"⟩ : Cond) ∈ lw_tbl := tb_1 _ (List.mem_of_getElem? (i := 117) (by decide +kernel))
set_option maxRecDepth 100000 in
theorem lwm_1470 : (.classLink RX9 74 "[I" : Cond) ∈ lw_tbl := tb_1 _ (List.mem_of_getElem? (i := 119) (by decide +kernel))
set_option maxRecDepth 100000 in
theorem lwm_1471 : (.methodLink RX12 11 yX9_init : Cond) ∈ lw_tbl := tb_1 _ (List.mem_of_getElem? (i := 42) (by decide +kernel))
set_option maxRecDepth 100000 in
theorem lwm_1472 : (.instanceMethod yX9_init : Cond) ∈ lw_tbl := tb_1 _ (List.mem_of_getElem? (i := 43) (by decide +kernel))
set_option maxRecDepth 100000 in
theorem lwm_1473 : (.classLink RX12 16 RX3 : Cond) ∈ lw_tbl := tb_1 _ (List.mem_of_getElem? (i := 196) (by decide +kernel))
set_option maxRecDepth 100000 in
theorem lwm_1474 : (.code yX3_init cX3_init 2 none : Cond) ∈ lw_tbl := tb_1 _ (List.mem_of_getElem? (i := 200) (by decide +kernel))
set_option maxRecDepth 100000 in
theorem lwm_1475 : (.methodLink RX3 3 objectInit : Cond) ∈ lw_tbl := tb_1 _ (List.mem_of_getElem? (i := 201) (by decide +kernel))
set_option maxRecDepth 100000 in
theorem lwm_1476 : (.methodLink RX12 18 yX3_init : Cond) ∈ lw_tbl := tb_1 _ (List.mem_of_getElem? (i := 198) (by decide +kernel))
set_option maxRecDepth 100000 in
theorem lwm_1477 : (.instanceMethod yX3_init : Cond) ∈ lw_tbl := tb_1 _ (List.mem_of_getElem? (i := 199) (by decide +kernel))
set_option maxRecDepth 100000 in
theorem lwm_1478 : (.classLink RX12 25 RX10 : Cond) ∈ lw_tbl := tb_1 _ (List.mem_of_getElem? (i := 226) (by decide +kernel))
set_option maxRecDepth 100000 in
theorem lwm_1479 : (.code yX10_init cX10_init 1 none : Cond) ∈ lw_tbl := tb_1 _ (List.mem_of_getElem? (i := 230) (by decide +kernel))
set_option maxRecDepth 100000 in
theorem lwm_1480 : (.methodLink RX10 3 objectInit : Cond) ∈ lw_tbl := tb_1 _ (List.mem_of_getElem? (i := 231) (by decide +kernel))
set_option maxRecDepth 100000 in
theorem lwm_1481 : (.arrayClass .boolean : Cond) ∈ lw_tbl := tb_2 _ (List.mem_of_getElem? (i := 61) (by decide +kernel))
set_option maxRecDepth 100000 in
theorem lwm_1482 : (.instanceMethod yX10_init : Cond) ∈ lw_tbl := tb_1 _ (List.mem_of_getElem? (i := 229) (by decide +kernel))
set_option maxRecDepth 100000 in
theorem lwm_1483 : (.fieldLink RX12 28 "OwnedPlaces" "types" "LOwnedPlaces$Types;" : Cond) ∈ lw_tbl := tb_4 _ (List.mem_of_getElem? (i := 109) (by decide +kernel))
set_option maxRecDepth 100000 in
theorem lwm_1484 : (.classLink RX12 32 RX1 : Cond) ∈ lw_tbl := tb_2 _ (List.mem_of_getElem? (i := 62) (by decide +kernel))
set_option maxRecDepth 100000 in
theorem lwm_1485 : (.code yX1_init cX1_init 4 none : Cond) ∈ lw_tbl := tb_2 _ (List.mem_of_getElem? (i := 66) (by decide +kernel))
set_option maxRecDepth 100000 in
theorem lwm_1486 : (.methodLink RX1 3 objectInit : Cond) ∈ lw_tbl := tb_2 _ (List.mem_of_getElem? (i := 67) (by decide +kernel))
set_option maxRecDepth 100000 in
theorem lwm_1487 : (.classLink RX1 9 RX2 : Cond) ∈ lw_tbl := tb_2 _ (List.mem_of_getElem? (i := 68) (by decide +kernel))
set_option maxRecDepth 100000 in
theorem lwm_1488 : (.code yX2_init cX2_init 1 none : Cond) ∈ lw_tbl := tb_2 _ (List.mem_of_getElem? (i := 73) (by decide +kernel))
set_option maxRecDepth 100000 in
theorem lwm_1489 : (.methodLink RX2 3 objectInit : Cond) ∈ lw_tbl := tb_2 _ (List.mem_of_getElem? (i := 74) (by decide +kernel))
set_option maxRecDepth 100000 in
theorem lwm_1490 : (.fieldLink RX2 15 "OwnedPlaces$Function" "parameterLife" "[I" : Cond) ∈ lw_tbl := tb_2 _ (List.mem_of_getElem? (i := 89) (by decide +kernel))
set_option maxRecDepth 100000 in
theorem lwm_1491 : (.instanceMethod yX2_init : Cond) ∈ lw_tbl := tb_2 _ (List.mem_of_getElem? (i := 72) (by decide +kernel))
set_option maxRecDepth 100000 in
theorem lwm_1492 : (.methodLink RX12 34 yX1_init : Cond) ∈ lw_tbl := tb_2 _ (List.mem_of_getElem? (i := 64) (by decide +kernel))
set_option maxRecDepth 100000 in
theorem lwm_1493 : (.instanceMethod yX1_init : Cond) ∈ lw_tbl := tb_2 _ (List.mem_of_getElem? (i := 65) (by decide +kernel))
set_option maxRecDepth 100000 in
theorem lwm_1494 : (.classLink RX12 41 RX0 : Cond) ∈ lw_tbl := tb_2 _ (List.mem_of_getElem? (i := 219) (by decide +kernel))
set_option maxRecDepth 100000 in
theorem lwm_1495 : (.code yX0_init cX0_init 1 none : Cond) ∈ lw_tbl := tb_2 _ (List.mem_of_getElem? (i := 223) (by decide +kernel))
set_option maxRecDepth 100000 in
theorem lwm_1496 : (.methodLink RX0 3 objectInit : Cond) ∈ lw_tbl := tb_2 _ (List.mem_of_getElem? (i := 224) (by decide +kernel))
set_option maxRecDepth 100000 in
theorem lwm_1497 : (.fieldLink RX0 51 "OwnedPlaces$Code" "armLabels" "[I" : Cond) ∈ lw_tbl := tb_3 _ (List.mem_of_getElem? (i := 29) (by decide +kernel))
set_option maxRecDepth 100000 in
theorem lwm_1498 : (.instanceMethod yX0_init : Cond) ∈ lw_tbl := tb_2 _ (List.mem_of_getElem? (i := 222) (by decide +kernel))
set_option maxRecDepth 100000 in
theorem lwm_1499 : (.fieldLink RX12 44 "OwnedPlaces" "code" "LOwnedPlaces$Code;" : Cond) ∈ lw_tbl := tb_4 _ (List.mem_of_getElem? (i := 111) (by decide +kernel))
set_option maxRecDepth 100000 in
theorem lwm_1500 : (.classLink RX12 48 RX11 : Cond) ∈ lw_tbl := tb_3 _ (List.mem_of_getElem? (i := 72) (by decide +kernel))
set_option maxRecDepth 100000 in
theorem lwm_1501 : (.code yX11_init cX11_init 5 none : Cond) ∈ lw_tbl := tb_3 _ (List.mem_of_getElem? (i := 76) (by decide +kernel))
set_option maxRecDepth 100000 in
theorem lwm_1502 : (.methodLink RX11 3 objectInit : Cond) ∈ lw_tbl := tb_3 _ (List.mem_of_getElem? (i := 77) (by decide +kernel))
set_option maxRecDepth 100000 in
theorem lwm_1503 : (.methodLink RX12 50 yX11_init : Cond) ∈ lw_tbl := tb_3 _ (List.mem_of_getElem? (i := 74) (by decide +kernel))
set_option maxRecDepth 100000 in
theorem lwm_1504 : (.instanceMethod yX11_init : Cond) ∈ lw_tbl := tb_3 _ (List.mem_of_getElem? (i := 75) (by decide +kernel))
set_option maxRecDepth 100000 in
theorem lwm_1505 : (.classLink RX12 57 RX7 : Cond) ∈ lw_tbl := tb_3 _ (List.mem_of_getElem? (i := 118) (by decide +kernel))
set_option maxRecDepth 100000 in
theorem lwm_1506 : (.code yX7_init cX7_init 3 none : Cond) ∈ lw_tbl := tb_3 _ (List.mem_of_getElem? (i := 122) (by decide +kernel))
set_option maxRecDepth 100000 in
theorem lwm_1507 : (.methodLink RX7 3 objectInit : Cond) ∈ lw_tbl := tb_3 _ (List.mem_of_getElem? (i := 123) (by decide +kernel))
set_option maxRecDepth 100000 in
theorem lwm_1508 : (.constant RX7 15 44000 : Cond) ∈ lw_tbl := tb_3 _ (List.mem_of_getElem? (i := 124) (by decide +kernel))
set_option maxRecDepth 100000 in
theorem lwm_1509 : (.methodLink RX12 59 yX7_init : Cond) ∈ lw_tbl := tb_3 _ (List.mem_of_getElem? (i := 120) (by decide +kernel))
set_option maxRecDepth 100000 in
theorem lwm_1510 : (.instanceMethod yX7_init : Cond) ∈ lw_tbl := tb_3 _ (List.mem_of_getElem? (i := 121) (by decide +kernel))
set_option maxRecDepth 100000 in
theorem lwm_1511 : (.classLink RX12 66 RX4 : Cond) ∈ lw_tbl := tb_3 _ (List.mem_of_getElem? (i := 153) (by decide +kernel))
set_option maxRecDepth 100000 in
theorem lwm_1512 : (.code yX4_init cX4_init 4 none : Cond) ∈ lw_tbl := tb_3 _ (List.mem_of_getElem? (i := 157) (by decide +kernel))
set_option maxRecDepth 100000 in
theorem lwm_1513 : (.methodLink RX4 3 objectInit : Cond) ∈ lw_tbl := tb_3 _ (List.mem_of_getElem? (i := 158) (by decide +kernel))
set_option maxRecDepth 100000 in
theorem lwm_1514 : (.constant RX4 21 44000 : Cond) ∈ lw_tbl := tb_3 _ (List.mem_of_getElem? (i := 159) (by decide +kernel))
set_option maxRecDepth 100000 in
theorem lwm_1515 : (.methodLink RX12 68 yX4_init : Cond) ∈ lw_tbl := tb_3 _ (List.mem_of_getElem? (i := 155) (by decide +kernel))
set_option maxRecDepth 100000 in
theorem lwm_1516 : (.instanceMethod yX4_init : Cond) ∈ lw_tbl := tb_3 _ (List.mem_of_getElem? (i := 156) (by decide +kernel))
set_option maxRecDepth 100000 in
theorem lwm_1517 : (.classLink RX12 75 RX8 : Cond) ∈ lw_tbl := tb_3 _ (List.mem_of_getElem? (i := 215) (by decide +kernel))
set_option maxRecDepth 100000 in
theorem lwm_1518 : (.code yX8_init cX8_init 2 none : Cond) ∈ lw_tbl := tb_3 _ (List.mem_of_getElem? (i := 219) (by decide +kernel))
set_option maxRecDepth 100000 in
theorem lwm_1519 : (.methodLink RX8 1 objectInit : Cond) ∈ lw_tbl := tb_3 _ (List.mem_of_getElem? (i := 220) (by decide +kernel))
set_option maxRecDepth 100000 in
theorem lwm_1520 : (.methodLink RX12 77 yX8_init : Cond) ∈ lw_tbl := tb_3 _ (List.mem_of_getElem? (i := 217) (by decide +kernel))
set_option maxRecDepth 100000 in
theorem lwm_1521 : (.instanceMethod yX8_init : Cond) ∈ lw_tbl := tb_3 _ (List.mem_of_getElem? (i := 218) (by decide +kernel))
set_option maxRecDepth 100000 in
theorem lwm_1522 : (.classLink RX12 91 RX6 : Cond) ∈ lw_tbl := tb_3 _ (List.mem_of_getElem? (i := 235) (by decide +kernel))
set_option maxRecDepth 100000 in
theorem lwm_1523 : (.code yX6_init cX6_init 4 none : Cond) ∈ lw_tbl := tb_3 _ (List.mem_of_getElem? (i := 239) (by decide +kernel))
set_option maxRecDepth 100000 in
theorem lwm_1524 : (.methodLink RX6 3 objectInit : Cond) ∈ lw_tbl := tb_4 _ (List.mem_of_getElem? (i := 0) (by decide +kernel))
set_option maxRecDepth 100000 in
theorem lwm_1525 : (.methodLink RX12 93 yX6_init : Cond) ∈ lw_tbl := tb_3 _ (List.mem_of_getElem? (i := 237) (by decide +kernel))
set_option maxRecDepth 100000 in
theorem lwm_1526 : (.instanceMethod yX6_init : Cond) ∈ lw_tbl := tb_3 _ (List.mem_of_getElem? (i := 238) (by decide +kernel))
set_option maxRecDepth 100000 in
theorem lwm_1527 : (.classLink RX12 100 RX5 : Cond) ∈ lw_tbl := tb_4 _ (List.mem_of_getElem? (i := 41) (by decide +kernel))
set_option maxRecDepth 100000 in
theorem lwm_1528 : (.code yX5_init cX5_init 7 none : Cond) ∈ lw_tbl := tb_4 _ (List.mem_of_getElem? (i := 45) (by decide +kernel))
set_option maxRecDepth 100000 in
theorem lwm_1529 : (.methodLink RX5 3 objectInit : Cond) ∈ lw_tbl := tb_4 _ (List.mem_of_getElem? (i := 46) (by decide +kernel))
set_option maxRecDepth 100000 in
theorem lwm_1530 : (.classLink RX5 9 RX2 : Cond) ∈ lw_tbl := tb_4 _ (List.mem_of_getElem? (i := 47) (by decide +kernel))
set_option maxRecDepth 100000 in
theorem lwm_1531 : (.methodLink RX12 102 yX5_init : Cond) ∈ lw_tbl := tb_4 _ (List.mem_of_getElem? (i := 43) (by decide +kernel))
set_option maxRecDepth 100000 in
theorem lwm_1532 : (.instanceMethod yX5_init : Cond) ∈ lw_tbl := tb_4 _ (List.mem_of_getElem? (i := 44) (by decide +kernel))
set_option maxRecDepth 100000 in
theorem lwm_1533 : (.code yX23_init cX23_init 2 none : Cond) ∈ lw_tbl := tb_8 _ (List.mem_of_getElem? (i := 145) (by decide +kernel))
set_option maxRecDepth 100000 in
theorem lwm_1534 : (.methodLink RX23 923 objectInit : Cond) ∈ lw_tbl := tb_8 _ (List.mem_of_getElem? (i := 146) (by decide +kernel))
set_option maxRecDepth 100000 in
theorem lwm_1535 : (.classLink RX23 140 RX16 : Cond) ∈ lw_tbl := tb_8 _ (List.mem_of_getElem? (i := 147) (by decide +kernel))
set_option maxRecDepth 100000 in
theorem lwm_1536 : (.fieldLink RX23 232 "OwnedPlacesModel" "items" "[LOwnedPlacesModel$Item;" : Cond) ∈ lw_tbl := tb_8 _ (List.mem_of_getElem? (i := 174) (by decide +kernel))
set_option maxRecDepth 100000 in
theorem lwm_1537 : (.classLink RX23 164 RX20 : Cond) ∈ lw_tbl := tb_8 _ (List.mem_of_getElem? (i := 149) (by decide +kernel))
set_option maxRecDepth 100000 in
theorem lwm_1538 : (.fieldLink RX23 385 "OwnedPlacesModel" "types" "[LOwnedPlacesModel$Type;" : Cond) ∈ lw_tbl := tb_8 _ (List.mem_of_getElem? (i := 181) (by decide +kernel))
set_option maxRecDepth 100000 in
theorem lwm_1539 : (.fieldLink RX23 432 "OwnedPlacesModel" "holds" "[Z" : Cond) ∈ lw_tbl := tb_8 _ (List.mem_of_getElem? (i := 183) (by decide +kernel))
set_option maxRecDepth 100000 in
theorem lwm_1540 : (.classLink RX23 192 RX21 : Cond) ∈ lw_tbl := tb_8 _ (List.mem_of_getElem? (i := 151) (by decide +kernel))
set_option maxRecDepth 100000 in
theorem lwm_1541 : (.fieldLink RX23 474 "OwnedPlacesModel" "scope" "[LOwnedPlacesModel$Variable;" : Cond) ∈ lw_tbl := tb_8 _ (List.mem_of_getElem? (i := 185) (by decide +kernel))
set_option maxRecDepth 100000 in
theorem lwm_1542 : (.fieldLink RX23 625 "OwnedPlacesModel" "kind" "[I" : Cond) ∈ lw_tbl := tb_8 _ (List.mem_of_getElem? (i := 190) (by decide +kernel))
set_option maxRecDepth 100000 in
theorem lwm_1543 : (.fieldLink RX23 629 "OwnedPlacesModel" "one" "[I" : Cond) ∈ lw_tbl := tb_8 _ (List.mem_of_getElem? (i := 191) (by decide +kernel))
set_option maxRecDepth 100000 in
theorem lwm_1544 : (.fieldLink RX23 632 "OwnedPlacesModel" "two" "[I" : Cond) ∈ lw_tbl := tb_8 _ (List.mem_of_getElem? (i := 192) (by decide +kernel))
set_option maxRecDepth 100000 in
theorem lwm_1545 : (.fieldLink RX23 635 "OwnedPlacesModel" "jump" "[I" : Cond) ∈ lw_tbl := tb_8 _ (List.mem_of_getElem? (i := 193) (by decide +kernel))
set_option maxRecDepth 100000 in
theorem lwm_1546 : (.fieldLink RX23 638 "OwnedPlacesModel" "number" "[J" : Cond) ∈ lw_tbl := tb_8 _ (List.mem_of_getElem? (i := 194) (by decide +kernel))
set_option maxRecDepth 100000 in
theorem lwm_1547 : (.fieldLink RX23 627 "OwnedPlacesModel" "token" "[I" : Cond) ∈ lw_tbl := tb_8 _ (List.mem_of_getElem? (i := 195) (by decide +kernel))
set_option maxRecDepth 100000 in
theorem lwm_1548 : (.fieldLink RX23 640 "OwnedPlacesModel" "access" "[I" : Cond) ∈ lw_tbl := tb_8 _ (List.mem_of_getElem? (i := 196) (by decide +kernel))
set_option maxRecDepth 100000 in
theorem lwm_1549 : (.fieldLink RX23 643 "OwnedPlacesModel" "holder" "[I" : Cond) ∈ lw_tbl := tb_8 _ (List.mem_of_getElem? (i := 197) (by decide +kernel))
set_option maxRecDepth 100000 in
theorem lwm_1550 : (.fieldLink RX23 646 "OwnedPlacesModel" "loan" "[I" : Cond) ∈ lw_tbl := tb_8 _ (List.mem_of_getElem? (i := 198) (by decide +kernel))
set_option maxRecDepth 100000 in
theorem lwm_1551 : (.classLink RX23 926 "[I" : Cond) ∈ lw_tbl := tb_8 _ (List.mem_of_getElem? (i := 153) (by decide +kernel))
set_option maxRecDepth 100000 in
theorem lwm_1552 : (.fieldLink RX23 649 "OwnedPlacesModel" "from" "[[I" : Cond) ∈ lw_tbl := tb_8 _ (List.mem_of_getElem? (i := 199) (by decide +kernel))
set_option maxRecDepth 100000 in
theorem lwm_1553 : (.fieldLink RX23 653 "OwnedPlacesModel" "used" "[[I" : Cond) ∈ lw_tbl := tb_8 _ (List.mem_of_getElem? (i := 200) (by decide +kernel))
set_option maxRecDepth 100000 in
theorem lwm_1554 : (.classLink RX23 678 RX18 : Cond) ∈ lw_tbl := tb_8 _ (List.mem_of_getElem? (i := 155) (by decide +kernel))
set_option maxRecDepth 100000 in
theorem lwm_1555 : (.fieldLink RX23 656 "OwnedPlacesModel" "path" "[LOwnedPlacesModel$Path;" : Cond) ∈ lw_tbl := tb_8 _ (List.mem_of_getElem? (i := 201) (by decide +kernel))
set_option maxRecDepth 100000 in
theorem lwm_1556 : (.fieldLink RX23 660 "OwnedPlacesModel" "ofType" "[LOwnedPlacesModel$Type;" : Cond) ∈ lw_tbl := tb_8 _ (List.mem_of_getElem? (i := 202) (by decide +kernel))
set_option maxRecDepth 100000 in
theorem lwm_1557 : (.fieldLink RX23 663 "OwnedPlacesModel" "variable" "[LOwnedPlacesModel$Variable;" : Cond) ∈ lw_tbl := tb_8 _ (List.mem_of_getElem? (i := 203) (by decide +kernel))
set_option maxRecDepth 100000 in
theorem lwm_1558 : (.classLink RX23 315 RX13 : Cond) ∈ lw_tbl := tb_8 _ (List.mem_of_getElem? (i := 157) (by decide +kernel))
set_option maxRecDepth 100000 in
theorem lwm_1559 : (.fieldLink RX23 665 "OwnedPlacesModel" "armOf" "[LOwnedPlacesModel$Arm;" : Cond) ∈ lw_tbl := tb_8 _ (List.mem_of_getElem? (i := 204) (by decide +kernel))
set_option maxRecDepth 100000 in
theorem lwm_1560 : (.fieldLink RX23 668 "OwnedPlacesModel" "targets" "[[I" : Cond) ∈ lw_tbl := tb_8 _ (List.mem_of_getElem? (i := 205) (by decide +kernel))
set_option maxRecDepth 100000 in
theorem lwm_1561 : (.fieldLink RX23 720 "OwnedPlacesModel" "loanPath" "[LOwnedPlacesModel$Path;" : Cond) ∈ lw_tbl := tb_8 _ (List.mem_of_getElem? (i := 206) (by decide +kernel))
set_option maxRecDepth 100000 in
theorem lwm_1562 : (.fieldLink RX23 726 "OwnedPlacesModel" "loanShared" "[Z" : Cond) ∈ lw_tbl := tb_8 _ (List.mem_of_getElem? (i := 207) (by decide +kernel))
set_option maxRecDepth 100000 in
theorem lwm_1563 : (.fieldLink RX23 729 "OwnedPlacesModel" "outerOf" "[I" : Cond) ∈ lw_tbl := tb_8 _ (List.mem_of_getElem? (i := 208) (by decide +kernel))
set_option maxRecDepth 100000 in
theorem lwm_1564 : (.fieldLink RX23 810 "OwnedPlacesModel" "outerLife" "[I" : Cond) ∈ lw_tbl := tb_8 _ (List.mem_of_getElem? (i := 209) (by decide +kernel))
set_option maxRecDepth 100000 in
theorem lwm_1565 : (.fieldLink RX23 763 "OwnedPlacesModel" "alive" "[LOwnedPlacesModel$Variable;" : Cond) ∈ lw_tbl := tb_8 _ (List.mem_of_getElem? (i := 212) (by decide +kernel))
set_option maxRecDepth 100000 in
theorem lwm_1566 : (.fieldLink RX23 671 "OwnedPlacesModel" "single" "[[I" : Cond) ∈ lw_tbl := tb_8 _ (List.mem_of_getElem? (i := 214) (by decide +kernel))
set_option maxRecDepth 100000 in
theorem lwm_1567 : (.fieldLink RX23 814 "OwnedPlacesModel" "reached" "[Z" : Cond) ∈ lw_tbl := tb_8 _ (List.mem_of_getElem? (i := 215) (by decide +kernel))
set_option maxRecDepth 100000 in
theorem lwm_1568 : (.constant RX23 927 240000 : Cond) ∈ lw_tbl := tb_8 _ (List.mem_of_getElem? (i := 159) (by decide +kernel))
set_option maxRecDepth 100000 in
theorem lwm_1569 : (.fieldLink RX23 838 "OwnedPlacesModel" "without" "[J" : Cond) ∈ lw_tbl := tb_8 _ (List.mem_of_getElem? (i := 216) (by decide +kernel))
set_option maxRecDepth 100000 in
theorem lwm_1570 : (.fieldLink RX23 841 "OwnedPlacesModel" "having" "[J" : Cond) ∈ lw_tbl := tb_8 _ (List.mem_of_getElem? (i := 217) (by decide +kernel))
set_option maxRecDepth 100000 in
theorem lwm_1571 : (.fieldLink RX23 835 "OwnedPlacesModel" "outWithout" "[J" : Cond) ∈ lw_tbl := tb_8 _ (List.mem_of_getElem? (i := 218) (by decide +kernel))
set_option maxRecDepth 100000 in
theorem lwm_1572 : (.fieldLink RX23 828 "OwnedPlacesModel" "outHaving" "[J" : Cond) ∈ lw_tbl := tb_8 _ (List.mem_of_getElem? (i := 219) (by decide +kernel))
set_option maxRecDepth 100000 in
theorem lwm_1573 : (.constant RX23 928 96000 : Cond) ∈ lw_tbl := tb_8 _ (List.mem_of_getElem? (i := 160) (by decide +kernel))
set_option maxRecDepth 100000 in
theorem lwm_1574 : (.fieldLink RX23 876 "OwnedPlacesModel" "lives" "[J" : Cond) ∈ lw_tbl := tb_8 _ (List.mem_of_getElem? (i := 221) (by decide +kernel))
set_option maxRecDepth 100000 in
theorem lwm_1575 : (.fieldLink RX23 884 "OwnedPlacesModel" "holding" "[J" : Cond) ∈ lw_tbl := tb_8 _ (List.mem_of_getElem? (i := 222) (by decide +kernel))
set_option maxRecDepth 100000 in
theorem lwm_1576 : (.fieldLink RX23 881 "OwnedPlacesModel" "behind" "[J" : Cond) ∈ lw_tbl := tb_8 _ (List.mem_of_getElem? (i := 223) (by decide +kernel))
set_option maxRecDepth 100000 in
theorem lwm_1577 : (.constant RX23 929 430000 : Cond) ∈ lw_tbl := tb_8 _ (List.mem_of_getElem? (i := 161) (by decide +kernel))
set_option maxRecDepth 100000 in
theorem lwm_1578 : (.fieldLink RX23 930 "OwnedPlacesModel" "worth" "[J" : Cond) ∈ lw_tbl := tb_8 _ (List.mem_of_getElem? (i := 224) (by decide +kernel))
set_option maxRecDepth 100000 in
theorem lwm_1579 : (.fieldLink RX23 933 "OwnedPlacesModel" "has" "[Z" : Cond) ∈ lw_tbl := tb_8 _ (List.mem_of_getElem? (i := 225) (by decide +kernel))
set_option maxRecDepth 100000 in
theorem lwm_1580 : (.fieldLink RX23 936 "OwnedPlacesModel" "next" "[I" : Cond) ∈ lw_tbl := tb_8 _ (List.mem_of_getElem? (i := 226) (by decide +kernel))
set_option maxRecDepth 100000 in
theorem lwm_1581 : (.fieldLink RX23 939 "OwnedPlacesModel" "taken" "[Z" : Cond) ∈ lw_tbl := tb_8 _ (List.mem_of_getElem? (i := 230) (by decide +kernel))
set_option maxRecDepth 100000 in
theorem lwm_1582 : (.fieldLink RX23 942 "OwnedPlacesModel" "stack" "[J" : Cond) ∈ lw_tbl := tb_8 _ (List.mem_of_getElem? (i := 235) (by decide +kernel))
set_option maxRecDepth 100000 in
theorem lwm_1583 : (.fieldLink RX23 945 "OwnedPlacesModel" "place" "[I" : Cond) ∈ lw_tbl := tb_8 _ (List.mem_of_getElem? (i := 237) (by decide +kernel))
set_option maxRecDepth 100000 in
theorem lwm_1584 : (.fieldLink RX23 947 "OwnedPlacesModel" "frameBack" "[I" : Cond) ∈ lw_tbl := tb_8 _ (List.mem_of_getElem? (i := 238) (by decide +kernel))
set_option maxRecDepth 100000 in
theorem lwm_1585 : (.constant RX23 950 90000 : Cond) ∈ lw_tbl := tb_8 _ (List.mem_of_getElem? (i := 162) (by decide +kernel))
set_option maxRecDepth 100000 in
theorem lwm_1586 : (.fieldLink RX23 951 "OwnedPlacesModel" "doWhat" "[I" : Cond) ∈ lw_tbl := tb_9 _ (List.mem_of_getElem? (i := 1) (by decide +kernel))
set_option maxRecDepth 100000 in
theorem lwm_1587 : (.fieldLink RX23 954 "OwnedPlacesModel" "doType" "[I" : Cond) ∈ lw_tbl := tb_9 _ (List.mem_of_getElem? (i := 2) (by decide +kernel))
set_option maxRecDepth 100000 in
theorem lwm_1588 : (.fieldLink RX23 957 "OwnedPlacesModel" "doNode" "[I" : Cond) ∈ lw_tbl := tb_9 _ (List.mem_of_getElem? (i := 3) (by decide +kernel))
set_option maxRecDepth 100000 in
theorem lwm_1589 : (.fieldLink RX23 960 "OwnedPlacesModel" "waiting" "[I" : Cond) ∈ lw_tbl := tb_9 _ (List.mem_of_getElem? (i := 5) (by decide +kernel))
set_option maxRecDepth 100000 in
theorem lwm_1590 : (.fieldLink RX23 963 "OwnedPlacesModel" "inputs" "[J" : Cond) ∈ lw_tbl := tb_9 _ (List.mem_of_getElem? (i := 8) (by decide +kernel))
set_option maxRecDepth 100000 in
theorem lwm_1591 : (.fieldLink RX23 966 "OwnedPlacesModel" "told" "I" : Cond) ∈ lw_tbl := tb_9 _ (List.mem_of_getElem? (i := 10) (by decide +kernel))
set_option maxRecDepth 100000 in
theorem lwm_1592 : (.fieldLink RX23 968 "OwnedPlacesModel" "heapLong" "I" : Cond) ∈ lw_tbl := tb_8 _ (List.mem_of_getElem? (i := 229) (by decide +kernel))
