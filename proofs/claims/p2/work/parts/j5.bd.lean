theorem dX23_let_0 : decode cX23_let 0 = .ok (.aload_n 1, 1) := by decide +kernel
theorem dX23_let_1 : decode cX23_let 1 = .ok (.iconst 0, 1) := by decide +kernel
theorem dX23_let_2 : decode cX23_let 2 = .ok (.putfield 263, 3) := by decide +kernel
theorem dX23_let_5 : decode cX23_let 5 = .ok (.aload_n 0, 1) := by decide +kernel
theorem dX23_let_6 : decode cX23_let 6 = .ok (.dup, 1) := by decide +kernel
theorem dX23_let_7 : decode cX23_let 7 = .ok (.getfield 86, 3) := by decide +kernel
theorem dX23_let_10 : decode cX23_let 10 = .ok (.iconst 1, 1) := by decide +kernel
theorem dX23_let_11 : decode cX23_let 11 = .ok (.iadd, 1) := by decide +kernel
theorem dX23_let_12 : decode cX23_let 12 = .ok (.putfield 86, 3) := by decide +kernel
theorem dX23_let_15 : decode cX23_let 15 = .ok (.aload_n 1, 1) := by decide +kernel
theorem dX23_let_16 : decode cX23_let 16 = .ok (.aload_n 0, 1) := by decide +kernel
theorem dX23_let_17 : decode cX23_let 17 = .ok (.bipush 14, 2) := by decide +kernel
theorem dX23_let_19 : decode cX23_let 19 = .ok (.invokevirtual 125, 3) := by decide +kernel
theorem dX23_let_22 : decode cX23_let 22 = .ok (.putfield 278, 3) := by decide +kernel
theorem dX23_let_25 : decode cX23_let 25 = .ok (.aload_n 0, 1) := by decide +kernel
theorem dX23_let_26 : decode cX23_let 26 = .ok (.invokevirtual 282, 3) := by decide +kernel
theorem dX23_let_29 : decode cX23_let 29 = .ok (.aload_n 1, 1) := by decide +kernel
theorem dX23_let_30 : decode cX23_let 30 = .ok (.aload_n 0, 1) := by decide +kernel
theorem dX23_let_31 : decode cX23_let 31 = .ok (.invokevirtual 150, 3) := by decide +kernel
theorem dX23_let_34 : decode cX23_let 34 = .ok (.putfield 285, 3) := by decide +kernel
theorem dX23_let_37 : decode cX23_let 37 = .ok (.aload_n 0, 1) := by decide +kernel
theorem dX23_let_38 : decode cX23_let 38 = .ok (.bipush 58, 2) := by decide +kernel
theorem dX23_let_40 : decode cX23_let 40 = .ok (.invokevirtual 125, 3) := by decide +kernel
theorem dX23_let_43 : decode cX23_let 43 = .ok (.ifCond .eq 11, 3) := by decide +kernel
theorem dX23_let_46 : decode cX23_let 46 = .ok (.aload_n 1, 1) := by decide +kernel
theorem dX23_let_47 : decode cX23_let 47 = .ok (.aload_n 0, 1) := by decide +kernel
theorem dX23_let_48 : decode cX23_let 48 = .ok (.invokevirtual 131, 3) := by decide +kernel
theorem dX23_let_51 : decode cX23_let 51 = .ok (.putfield 286, 3) := by decide +kernel
theorem dX23_let_54 : decode cX23_let 54 = .ok (.aload_n 0, 1) := by decide +kernel
theorem dX23_let_55 : decode cX23_let 55 = .ok (.bipush 54, 2) := by decide +kernel
theorem dX23_let_57 : decode cX23_let 57 = .ok (.invokevirtual 125, 3) := by decide +kernel
theorem dX23_let_60 : decode cX23_let 60 = .ok (.ifCond .eq 11, 3) := by decide +kernel
theorem dX23_let_63 : decode cX23_let 63 = .ok (.aload_n 1, 1) := by decide +kernel
theorem dX23_let_64 : decode cX23_let 64 = .ok (.aload_n 0, 1) := by decide +kernel
theorem dX23_let_65 : decode cX23_let 65 = .ok (.invokevirtual 264, 3) := by decide +kernel
theorem dX23_let_68 : decode cX23_let 68 = .ok (.putfield 268, 3) := by decide +kernel
theorem dX23_let_71 : decode cX23_let 71 = .ok (.aload_n 0, 1) := by decide +kernel
theorem dX23_let_72 : decode cX23_let 72 = .ok (.bipush 60, 2) := by decide +kernel
theorem dX23_let_74 : decode cX23_let 74 = .ok (.invokevirtual 100, 3) := by decide +kernel
theorem dX23_let_77 : decode cX23_let 77 = .ok (.return_, 1) := by decide +kernel
theorem dX23_plain_0 : decode cX23_plain 0 = .ok (.aload_n 1, 1) := by decide +kernel
theorem dX23_plain_1 : decode cX23_plain 1 = .ok (.iconst 1, 1) := by decide +kernel
theorem dX23_plain_2 : decode cX23_plain 2 = .ok (.putfield 263, 3) := by decide +kernel
theorem dX23_plain_5 : decode cX23_plain 5 = .ok (.aload_n 1, 1) := by decide +kernel
theorem dX23_plain_6 : decode cX23_plain 6 = .ok (.aload_n 0, 1) := by decide +kernel
theorem dX23_plain_7 : decode cX23_plain 7 = .ok (.invokevirtual 264, 3) := by decide +kernel
theorem dX23_plain_10 : decode cX23_plain 10 = .ok (.putfield 268, 3) := by decide +kernel
theorem dX23_plain_13 : decode cX23_plain 13 = .ok (.aload_n 0, 1) := by decide +kernel
theorem dX23_plain_14 : decode cX23_plain 14 = .ok (.invokevirtual 89, 3) := by decide +kernel
theorem dX23_plain_17 : decode cX23_plain 17 = .ok (.ifCond .eq 63, 3) := by decide +kernel
theorem dX23_plain_20 : decode cX23_plain 20 = .ok (.aload_n 0, 1) := by decide +kernel
theorem dX23_plain_21 : decode cX23_plain 21 = .ok (.bipush 54, 2) := by decide +kernel
theorem dX23_plain_23 : decode cX23_plain 23 = .ok (.invokevirtual 93, 3) := by decide +kernel
theorem dX23_plain_26 : decode cX23_plain 26 = .ok (.ifCond .eq 54, 3) := by decide +kernel
theorem dX23_plain_29 : decode cX23_plain 29 = .ok (.aload_n 1, 1) := by decide +kernel
theorem dX23_plain_30 : decode cX23_plain 30 = .ok (.getfield 268, 3) := by decide +kernel
theorem dX23_plain_33 : decode cX23_plain 33 = .ok (.invokestatic 288, 3) := by decide +kernel
theorem dX23_plain_36 : decode cX23_plain 36 = .ok (.ifCond .ne 13, 3) := by decide +kernel
theorem dX23_plain_39 : decode cX23_plain 39 = .ok (.aload_n 0, 1) := by decide +kernel
theorem dX23_plain_40 : decode cX23_plain 40 = .ok (.iconst 1, 1) := by decide +kernel
theorem dX23_plain_41 : decode cX23_plain 41 = .ok (.aload_n 0, 1) := by decide +kernel
theorem dX23_plain_42 : decode cX23_plain 42 = .ok (.getfield 86, 3) := by decide +kernel
theorem dX23_plain_45 : decode cX23_plain 45 = .ok (.invokevirtual 96, 3) := by decide +kernel
theorem dX23_plain_48 : decode cX23_plain 48 = .ok (.return_, 1) := by decide +kernel
theorem dX23_plain_49 : decode cX23_plain 49 = .ok (.aload_n 0, 1) := by decide +kernel
theorem dX23_plain_50 : decode cX23_plain 50 = .ok (.dup, 1) := by decide +kernel
theorem dX23_plain_51 : decode cX23_plain 51 = .ok (.getfield 86, 3) := by decide +kernel
theorem dX23_plain_54 : decode cX23_plain 54 = .ok (.iconst 1, 1) := by decide +kernel
theorem dX23_plain_55 : decode cX23_plain 55 = .ok (.iadd, 1) := by decide +kernel
theorem dX23_plain_56 : decode cX23_plain 56 = .ok (.putfield 86, 3) := by decide +kernel
theorem dX23_plain_59 : decode cX23_plain 59 = .ok (.aload_n 1, 1) := by decide +kernel
theorem dX23_plain_60 : decode cX23_plain 60 = .ok (.iconst 2, 1) := by decide +kernel
theorem dX23_plain_61 : decode cX23_plain 61 = .ok (.putfield 263, 3) := by decide +kernel
theorem dX23_plain_64 : decode cX23_plain 64 = .ok (.aload_n 1, 1) := by decide +kernel
theorem dX23_plain_65 : decode cX23_plain 65 = .ok (.aload_n 1, 1) := by decide +kernel
theorem dX23_plain_66 : decode cX23_plain 66 = .ok (.getfield 268, 3) := by decide +kernel
theorem dX23_plain_69 : decode cX23_plain 69 = .ok (.putfield 292, 3) := by decide +kernel
theorem dX23_plain_72 : decode cX23_plain 72 = .ok (.aload_n 1, 1) := by decide +kernel
theorem dX23_plain_73 : decode cX23_plain 73 = .ok (.aload_n 0, 1) := by decide +kernel
theorem dX23_plain_74 : decode cX23_plain 74 = .ok (.invokevirtual 264, 3) := by decide +kernel
theorem dX23_plain_77 : decode cX23_plain 77 = .ok (.putfield 268, 3) := by decide +kernel
theorem dX23_plain_80 : decode cX23_plain 80 = .ok (.aload_n 0, 1) := by decide +kernel
theorem dX23_plain_81 : decode cX23_plain 81 = .ok (.bipush 60, 2) := by decide +kernel
theorem dX23_plain_83 : decode cX23_plain 83 = .ok (.invokevirtual 100, 3) := by decide +kernel
theorem dX23_plain_86 : decode cX23_plain 86 = .ok (.return_, 1) := by decide +kernel
theorem dX23_block_0 : decode cX23_block 0 = .ok (.new 236, 3) := by decide +kernel
theorem dX23_block_3 : decode cX23_block 3 = .ok (.dup, 1) := by decide +kernel
theorem dX23_block_4 : decode cX23_block 4 = .ok (.invokespecial 238, 3) := by decide +kernel
theorem dX23_block_7 : decode cX23_block 7 = .ok (.astore_n 1, 1) := by decide +kernel
theorem dX23_block_8 : decode cX23_block 8 = .ok (.aload_n 0, 1) := by decide +kernel
theorem dX23_block_9 : decode cX23_block 9 = .ok (.invokevirtual 89, 3) := by decide +kernel
theorem dX23_block_12 : decode cX23_block 12 = .ok (.ifCond .ne 5, 3) := by decide +kernel
theorem dX23_block_15 : decode cX23_block 15 = .ok (.aload_n 1, 1) := by decide +kernel
theorem dX23_block_16 : decode cX23_block 16 = .ok (.areturn, 1) := by decide +kernel
theorem dX23_block_17 : decode cX23_block 17 = .ok (.aload_n 1, 1) := by decide +kernel
theorem dX23_block_18 : decode cX23_block 18 = .ok (.aload_n 0, 1) := by decide +kernel
theorem dX23_block_19 : decode cX23_block 19 = .ok (.getfield 86, 3) := by decide +kernel
theorem dX23_block_22 : decode cX23_block 22 = .ok (.putfield 239, 3) := by decide +kernel
theorem dX23_block_25 : decode cX23_block 25 = .ok (.aload_n 0, 1) := by decide +kernel
theorem dX23_block_26 : decode cX23_block 26 = .ok (.bipush 63, 2) := by decide +kernel
theorem dX23_block_28 : decode cX23_block 28 = .ok (.invokevirtual 93, 3) := by decide +kernel
theorem dX23_block_31 : decode cX23_block 31 = .ok (.ifCond .eq 14, 3) := by decide +kernel
theorem dX23_block_34 : decode cX23_block 34 = .ok (.aload_n 0, 1) := by decide +kernel
theorem dX23_block_35 : decode cX23_block 35 = .ok (.aload_n 0, 1) := by decide +kernel
theorem dX23_block_36 : decode cX23_block 36 = .ok (.getfield 86, 3) := by decide +kernel
theorem dX23_block_39 : decode cX23_block 39 = .ok (.invokevirtual 119, 3) := by decide +kernel
theorem dX23_block_42 : decode cX23_block 42 = .ok (.goto 13, 3) := by decide +kernel
theorem dX23_block_45 : decode cX23_block 45 = .ok (.aload_n 0, 1) := by decide +kernel
theorem dX23_block_46 : decode cX23_block 46 = .ok (.dup, 1) := by decide +kernel
theorem dX23_block_47 : decode cX23_block 47 = .ok (.getfield 104, 3) := by decide +kernel
theorem dX23_block_50 : decode cX23_block 50 = .ok (.iconst 1, 1) := by decide +kernel
theorem dX23_block_51 : decode cX23_block 51 = .ok (.iadd, 1) := by decide +kernel
theorem dX23_block_52 : decode cX23_block 52 = .ok (.putfield 104, 3) := by decide +kernel
theorem dX23_block_55 : decode cX23_block 55 = .ok (.aload_n 0, 1) := by decide +kernel
theorem dX23_block_56 : decode cX23_block 56 = .ok (.bipush 63, 2) := by decide +kernel
theorem dX23_block_58 : decode cX23_block 58 = .ok (.invokevirtual 100, 3) := by decide +kernel
theorem dX23_block_61 : decode cX23_block 61 = .ok (.aload_n 0, 1) := by decide +kernel
theorem dX23_block_62 : decode cX23_block 62 = .ok (.invokevirtual 89, 3) := by decide +kernel
theorem dX23_block_65 : decode cX23_block 65 = .ok (.ifCond .eq 96, 3) := by decide +kernel
theorem dX23_block_68 : decode cX23_block 68 = .ok (.aload_n 0, 1) := by decide +kernel
theorem dX23_block_69 : decode cX23_block 69 = .ok (.bipush 64, 2) := by decide +kernel
theorem dX23_block_71 : decode cX23_block 71 = .ok (.invokevirtual 93, 3) := by decide +kernel
theorem dX23_block_74 : decode cX23_block 74 = .ok (.ifCond .ne 87, 3) := by decide +kernel
theorem dX23_block_77 : decode cX23_block 77 = .ok (.aload_n 0, 1) := by decide +kernel
theorem dX23_block_78 : decode cX23_block 78 = .ok (.invokevirtual 240, 3) := by decide +kernel
theorem dX23_block_81 : decode cX23_block 81 = .ok (.astore_n 2, 1) := by decide +kernel
theorem dX23_block_82 : decode cX23_block 82 = .ok (.aload_n 1, 1) := by decide +kernel
theorem dX23_block_83 : decode cX23_block 83 = .ok (.getfield 244, 3) := by decide +kernel
theorem dX23_block_86 : decode cX23_block 86 = .ok (.aload_n 1, 1) := by decide +kernel
theorem dX23_block_87 : decode cX23_block 87 = .ok (.getfield 245, 3) := by decide +kernel
theorem dX23_block_90 : decode cX23_block 90 = .ok (.arraylength, 1) := by decide +kernel
theorem dX23_block_91 : decode cX23_block 91 = .ok (.if_icmp .ne 47, 3) := by decide +kernel
theorem dX23_block_94 : decode cX23_block 94 = .ok (.iconst 2, 1) := by decide +kernel
theorem dX23_block_95 : decode cX23_block 95 = .ok (.aload_n 1, 1) := by decide +kernel
theorem dX23_block_96 : decode cX23_block 96 = .ok (.getfield 244, 3) := by decide +kernel
theorem dX23_block_99 : decode cX23_block 99 = .ok (.imul, 1) := by decide +kernel
theorem dX23_block_100 : decode cX23_block 100 = .ok (.anewarray 249, 3) := by decide +kernel
theorem dX23_block_103 : decode cX23_block 103 = .ok (.astore_n 3, 1) := by decide +kernel
theorem dX23_block_104 : decode cX23_block 104 = .ok (.iconst 0, 1) := by decide +kernel
theorem dX23_block_105 : decode cX23_block 105 = .ok (.istore 4, 2) := by decide +kernel
theorem dX23_block_107 : decode cX23_block 107 = .ok (.iload 4, 2) := by decide +kernel
theorem dX23_block_109 : decode cX23_block 109 = .ok (.aload_n 1, 1) := by decide +kernel
theorem dX23_block_110 : decode cX23_block 110 = .ok (.getfield 244, 3) := by decide +kernel
theorem dX23_block_113 : decode cX23_block 113 = .ok (.if_icmp .ge 20, 3) := by decide +kernel
theorem dX23_block_116 : decode cX23_block 116 = .ok (.aload_n 3, 1) := by decide +kernel
theorem dX23_block_117 : decode cX23_block 117 = .ok (.iload 4, 2) := by decide +kernel
theorem dX23_block_119 : decode cX23_block 119 = .ok (.aload_n 1, 1) := by decide +kernel
theorem dX23_block_120 : decode cX23_block 120 = .ok (.getfield 245, 3) := by decide +kernel
theorem dX23_block_123 : decode cX23_block 123 = .ok (.iload 4, 2) := by decide +kernel
theorem dX23_block_125 : decode cX23_block 125 = .ok (.aaload, 1) := by decide +kernel
theorem dX23_block_126 : decode cX23_block 126 = .ok (.aastore, 1) := by decide +kernel
theorem dX23_block_127 : decode cX23_block 127 = .ok (.iinc 4 1, 3) := by decide +kernel
theorem dX23_block_130 : decode cX23_block 130 = .ok (.goto (-23), 3) := by decide +kernel
theorem dX23_block_133 : decode cX23_block 133 = .ok (.aload_n 1, 1) := by decide +kernel
theorem dX23_block_134 : decode cX23_block 134 = .ok (.aload_n 3, 1) := by decide +kernel
theorem dX23_block_135 : decode cX23_block 135 = .ok (.putfield 245, 3) := by decide +kernel
theorem dX23_block_138 : decode cX23_block 138 = .ok (.aload_n 1, 1) := by decide +kernel
theorem dX23_block_139 : decode cX23_block 139 = .ok (.getfield 245, 3) := by decide +kernel
theorem dX23_block_142 : decode cX23_block 142 = .ok (.aload_n 1, 1) := by decide +kernel
theorem dX23_block_143 : decode cX23_block 143 = .ok (.getfield 244, 3) := by decide +kernel
theorem dX23_block_146 : decode cX23_block 146 = .ok (.aload_n 2, 1) := by decide +kernel
theorem dX23_block_147 : decode cX23_block 147 = .ok (.aastore, 1) := by decide +kernel
theorem dX23_block_148 : decode cX23_block 148 = .ok (.aload_n 1, 1) := by decide +kernel
theorem dX23_block_149 : decode cX23_block 149 = .ok (.dup, 1) := by decide +kernel
theorem dX23_block_150 : decode cX23_block 150 = .ok (.getfield 244, 3) := by decide +kernel
theorem dX23_block_153 : decode cX23_block 153 = .ok (.iconst 1, 1) := by decide +kernel
theorem dX23_block_154 : decode cX23_block 154 = .ok (.iadd, 1) := by decide +kernel
theorem dX23_block_155 : decode cX23_block 155 = .ok (.putfield 244, 3) := by decide +kernel
theorem dX23_block_158 : decode cX23_block 158 = .ok (.goto (-97), 3) := by decide +kernel
theorem dX23_block_161 : decode cX23_block 161 = .ok (.aload_n 0, 1) := by decide +kernel
theorem dX23_block_162 : decode cX23_block 162 = .ok (.dup, 1) := by decide +kernel
theorem dX23_block_163 : decode cX23_block 163 = .ok (.getfield 104, 3) := by decide +kernel
theorem dX23_block_166 : decode cX23_block 166 = .ok (.iconst 1, 1) := by decide +kernel
theorem dX23_block_167 : decode cX23_block 167 = .ok (.isub, 1) := by decide +kernel
theorem dX23_block_168 : decode cX23_block 168 = .ok (.putfield 104, 3) := by decide +kernel
theorem dX23_block_171 : decode cX23_block 171 = .ok (.aload_n 1, 1) := by decide +kernel
theorem dX23_block_172 : decode cX23_block 172 = .ok (.aload_n 0, 1) := by decide +kernel
theorem dX23_block_173 : decode cX23_block 173 = .ok (.getfield 86, 3) := by decide +kernel
theorem dX23_block_176 : decode cX23_block 176 = .ok (.putfield 251, 3) := by decide +kernel
theorem dX23_block_179 : decode cX23_block 179 = .ok (.aload_n 0, 1) := by decide +kernel
theorem dX23_block_180 : decode cX23_block 180 = .ok (.bipush 64, 2) := by decide +kernel
theorem dX23_block_182 : decode cX23_block 182 = .ok (.invokevirtual 100, 3) := by decide +kernel
theorem dX23_block_185 : decode cX23_block 185 = .ok (.aload_n 1, 1) := by decide +kernel
theorem dX23_block_186 : decode cX23_block 186 = .ok (.areturn, 1) := by decide +kernel
theorem dX23_statement_0 : decode cX23_statement 0 = .ok (.new 249, 3) := by decide +kernel
theorem dX23_statement_3 : decode cX23_statement 3 = .ok (.dup, 1) := by decide +kernel
theorem dX23_statement_4 : decode cX23_statement 4 = .ok (.invokespecial 254, 3) := by decide +kernel
theorem dX23_statement_7 : decode cX23_statement 7 = .ok (.astore_n 1, 1) := by decide +kernel
theorem dX23_statement_8 : decode cX23_statement 8 = .ok (.aload_n 1, 1) := by decide +kernel
theorem dX23_statement_9 : decode cX23_statement 9 = .ok (.aload_n 0, 1) := by decide +kernel
theorem dX23_statement_10 : decode cX23_statement 10 = .ok (.getfield 86, 3) := by decide +kernel
theorem dX23_statement_13 : decode cX23_statement 13 = .ok (.putfield 255, 3) := by decide +kernel
theorem dX23_statement_16 : decode cX23_statement 16 = .ok (.aload_n 0, 1) := by decide +kernel
theorem dX23_statement_17 : decode cX23_statement 17 = .ok (.getfield 25, 3) := by decide +kernel
theorem dX23_statement_20 : decode cX23_statement 20 = .ok (.aload_n 0, 1) := by decide +kernel
theorem dX23_statement_21 : decode cX23_statement 21 = .ok (.getfield 86, 3) := by decide +kernel
theorem dX23_statement_24 : decode cX23_statement 24 = .ok (.iaload, 1) := by decide +kernel
theorem dX23_statement_25 : decode cX23_statement 25 = .ok (.lookupswitch 217 #[(13, 67), (15, 75), (17, 83), (18, 117), (19, 125), (20, 167), (63, 200)], 67) := by decide +kernel
theorem dX23_statement_92 : decode cX23_statement 92 = .ok (.aload_n 0, 1) := by decide +kernel
theorem dX23_statement_93 : decode cX23_statement 93 = .ok (.aload_n 1, 1) := by decide +kernel
theorem dX23_statement_94 : decode cX23_statement 94 = .ok (.invokevirtual 256, 3) := by decide +kernel
theorem dX23_statement_97 : decode cX23_statement 97 = .ok (.goto 150, 3) := by decide +kernel
theorem dX23_statement_100 : decode cX23_statement 100 = .ok (.aload_n 0, 1) := by decide +kernel
theorem dX23_statement_101 : decode cX23_statement 101 = .ok (.aload_n 1, 1) := by decide +kernel
theorem dX23_statement_102 : decode cX23_statement 102 = .ok (.invokevirtual 260, 3) := by decide +kernel
theorem dX23_statement_105 : decode cX23_statement 105 = .ok (.goto 142, 3) := by decide +kernel
theorem dX23_statement_108 : decode cX23_statement 108 = .ok (.aload_n 1, 1) := by decide +kernel
theorem dX23_statement_109 : decode cX23_statement 109 = .ok (.iconst 4, 1) := by decide +kernel
theorem dX23_statement_110 : decode cX23_statement 110 = .ok (.putfield 263, 3) := by decide +kernel
theorem dX23_statement_113 : decode cX23_statement 113 = .ok (.aload_n 0, 1) := by decide +kernel
theorem dX23_statement_114 : decode cX23_statement 114 = .ok (.dup, 1) := by decide +kernel
theorem dX23_statement_115 : decode cX23_statement 115 = .ok (.getfield 86, 3) := by decide +kernel
theorem dX23_statement_118 : decode cX23_statement 118 = .ok (.iconst 1, 1) := by decide +kernel
theorem dX23_statement_119 : decode cX23_statement 119 = .ok (.iadd, 1) := by decide +kernel
theorem dX23_statement_120 : decode cX23_statement 120 = .ok (.putfield 86, 3) := by decide +kernel
theorem dX23_statement_123 : decode cX23_statement 123 = .ok (.aload_n 1, 1) := by decide +kernel
theorem dX23_statement_124 : decode cX23_statement 124 = .ok (.aload_n 0, 1) := by decide +kernel
theorem dX23_statement_125 : decode cX23_statement 125 = .ok (.invokevirtual 264, 3) := by decide +kernel
theorem dX23_statement_128 : decode cX23_statement 128 = .ok (.putfield 268, 3) := by decide +kernel
theorem dX23_statement_131 : decode cX23_statement 131 = .ok (.aload_n 1, 1) := by decide +kernel
theorem dX23_statement_132 : decode cX23_statement 132 = .ok (.aload_n 0, 1) := by decide +kernel
theorem dX23_statement_133 : decode cX23_statement 133 = .ok (.invokevirtual 213, 3) := by decide +kernel
theorem dX23_statement_136 : decode cX23_statement 136 = .ok (.putfield 271, 3) := by decide +kernel
theorem dX23_statement_139 : decode cX23_statement 139 = .ok (.goto 108, 3) := by decide +kernel
theorem dX23_statement_142 : decode cX23_statement 142 = .ok (.aload_n 0, 1) := by decide +kernel
theorem dX23_statement_143 : decode cX23_statement 143 = .ok (.aload_n 1, 1) := by decide +kernel
theorem dX23_statement_144 : decode cX23_statement 144 = .ok (.invokevirtual 272, 3) := by decide +kernel
theorem dX23_statement_147 : decode cX23_statement 147 = .ok (.goto 100, 3) := by decide +kernel
theorem dX23_statement_150 : decode cX23_statement 150 = .ok (.aload_n 1, 1) := by decide +kernel
theorem dX23_statement_151 : decode cX23_statement 151 = .ok (.bipush 6, 2) := by decide +kernel
theorem dX23_statement_153 : decode cX23_statement 153 = .ok (.putfield 263, 3) := by decide +kernel
theorem dX23_statement_156 : decode cX23_statement 156 = .ok (.aload_n 0, 1) := by decide +kernel
theorem dX23_statement_157 : decode cX23_statement 157 = .ok (.dup, 1) := by decide +kernel
theorem dX23_statement_158 : decode cX23_statement 158 = .ok (.getfield 86, 3) := by decide +kernel
theorem dX23_statement_161 : decode cX23_statement 161 = .ok (.iconst 1, 1) := by decide +kernel
theorem dX23_statement_162 : decode cX23_statement 162 = .ok (.iadd, 1) := by decide +kernel
theorem dX23_statement_163 : decode cX23_statement 163 = .ok (.putfield 86, 3) := by decide +kernel
theorem dX23_statement_166 : decode cX23_statement 166 = .ok (.aload_n 0, 1) := by decide +kernel
theorem dX23_statement_167 : decode cX23_statement 167 = .ok (.bipush 60, 2) := by decide +kernel
theorem dX23_statement_169 : decode cX23_statement 169 = .ok (.invokevirtual 93, 3) := by decide +kernel
theorem dX23_statement_172 : decode cX23_statement 172 = .ok (.ifCond .ne 11, 3) := by decide +kernel
theorem dX23_statement_175 : decode cX23_statement 175 = .ok (.aload_n 1, 1) := by decide +kernel
theorem dX23_statement_176 : decode cX23_statement 176 = .ok (.aload_n 0, 1) := by decide +kernel
theorem dX23_statement_177 : decode cX23_statement 177 = .ok (.invokevirtual 264, 3) := by decide +kernel
theorem dX23_statement_180 : decode cX23_statement 180 = .ok (.putfield 268, 3) := by decide +kernel
theorem dX23_statement_183 : decode cX23_statement 183 = .ok (.aload_n 0, 1) := by decide +kernel
theorem dX23_statement_184 : decode cX23_statement 184 = .ok (.bipush 60, 2) := by decide +kernel
theorem dX23_statement_186 : decode cX23_statement 186 = .ok (.invokevirtual 100, 3) := by decide +kernel
theorem dX23_statement_189 : decode cX23_statement 189 = .ok (.goto 58, 3) := by decide +kernel
theorem dX23_statement_192 : decode cX23_statement 192 = .ok (.aload_n 1, 1) := by decide +kernel
theorem dX23_statement_193 : decode cX23_statement 193 = .ok (.bipush 7, 2) := by decide +kernel
theorem dX23_statement_195 : decode cX23_statement 195 = .ok (.putfield 263, 3) := by decide +kernel
theorem dX23_statement_198 : decode cX23_statement 198 = .ok (.aload_n 0, 1) := by decide +kernel
theorem dX23_statement_199 : decode cX23_statement 199 = .ok (.dup, 1) := by decide +kernel
theorem dX23_statement_200 : decode cX23_statement 200 = .ok (.getfield 86, 3) := by decide +kernel
theorem dX23_statement_203 : decode cX23_statement 203 = .ok (.iconst 1, 1) := by decide +kernel
theorem dX23_statement_204 : decode cX23_statement 204 = .ok (.iadd, 1) := by decide +kernel
theorem dX23_statement_205 : decode cX23_statement 205 = .ok (.putfield 86, 3) := by decide +kernel
theorem dX23_statement_208 : decode cX23_statement 208 = .ok (.aload_n 1, 1) := by decide +kernel
theorem dX23_statement_209 : decode cX23_statement 209 = .ok (.aload_n 0, 1) := by decide +kernel
theorem dX23_statement_210 : decode cX23_statement 210 = .ok (.invokevirtual 264, 3) := by decide +kernel
theorem dX23_statement_213 : decode cX23_statement 213 = .ok (.putfield 268, 3) := by decide +kernel
theorem dX23_statement_216 : decode cX23_statement 216 = .ok (.aload_n 0, 1) := by decide +kernel
theorem dX23_statement_217 : decode cX23_statement 217 = .ok (.bipush 60, 2) := by decide +kernel
theorem dX23_statement_219 : decode cX23_statement 219 = .ok (.invokevirtual 100, 3) := by decide +kernel
theorem dX23_statement_222 : decode cX23_statement 222 = .ok (.goto 25, 3) := by decide +kernel
theorem dX23_statement_225 : decode cX23_statement 225 = .ok (.aload_n 1, 1) := by decide +kernel
theorem dX23_statement_226 : decode cX23_statement 226 = .ok (.bipush 8, 2) := by decide +kernel
theorem dX23_statement_228 : decode cX23_statement 228 = .ok (.putfield 263, 3) := by decide +kernel
theorem dX23_statement_231 : decode cX23_statement 231 = .ok (.aload_n 1, 1) := by decide +kernel
theorem dX23_statement_232 : decode cX23_statement 232 = .ok (.aload_n 0, 1) := by decide +kernel
theorem dX23_statement_233 : decode cX23_statement 233 = .ok (.invokevirtual 213, 3) := by decide +kernel
theorem dX23_statement_236 : decode cX23_statement 236 = .ok (.putfield 271, 3) := by decide +kernel
theorem dX23_statement_239 : decode cX23_statement 239 = .ok (.goto 8, 3) := by decide +kernel
theorem dX23_statement_242 : decode cX23_statement 242 = .ok (.aload_n 0, 1) := by decide +kernel
theorem dX23_statement_243 : decode cX23_statement 243 = .ok (.aload_n 1, 1) := by decide +kernel
theorem dX23_statement_244 : decode cX23_statement 244 = .ok (.invokevirtual 275, 3) := by decide +kernel
theorem dX23_statement_247 : decode cX23_statement 247 = .ok (.aload_n 1, 1) := by decide +kernel
theorem dX23_statement_248 : decode cX23_statement 248 = .ok (.areturn, 1) := by decide +kernel
theorem dX23_branch_0 : decode cX23_branch 0 = .ok (.aload_n 1, 1) := by decide +kernel
theorem dX23_branch_1 : decode cX23_branch 1 = .ok (.iconst 3, 1) := by decide +kernel
theorem dX23_branch_2 : decode cX23_branch 2 = .ok (.putfield 263, 3) := by decide +kernel
theorem dX23_branch_5 : decode cX23_branch 5 = .ok (.aload_n 1, 1) := by decide +kernel
theorem dX23_branch_6 : decode cX23_branch 6 = .ok (.iconst 4, 1) := by decide +kernel
theorem dX23_branch_7 : decode cX23_branch 7 = .ok (.anewarray 295, 3) := by decide +kernel
theorem dX23_branch_10 : decode cX23_branch 10 = .ok (.putfield 297, 3) := by decide +kernel
theorem dX23_branch_13 : decode cX23_branch 13 = .ok (.aload_n 1, 1) := by decide +kernel
theorem dX23_branch_14 : decode cX23_branch 14 = .ok (.iconst 4, 1) := by decide +kernel
theorem dX23_branch_15 : decode cX23_branch 15 = .ok (.anewarray 236, 3) := by decide +kernel
theorem dX23_branch_18 : decode cX23_branch 18 = .ok (.putfield 301, 3) := by decide +kernel
theorem dX23_branch_21 : decode cX23_branch 21 = .ok (.iconst 1, 1) := by decide +kernel
theorem dX23_branch_22 : decode cX23_branch 22 = .ok (.istore_n 2, 1) := by decide +kernel
theorem dX23_branch_23 : decode cX23_branch 23 = .ok (.aload_n 0, 1) := by decide +kernel
theorem dX23_branch_24 : decode cX23_branch 24 = .ok (.invokevirtual 89, 3) := by decide +kernel
theorem dX23_branch_27 : decode cX23_branch 27 = .ok (.ifCond .eq 92, 3) := by decide +kernel
theorem dX23_branch_30 : decode cX23_branch 30 = .ok (.iload_n 2, 1) := by decide +kernel
theorem dX23_branch_31 : decode cX23_branch 31 = .ok (.ifCond .eq 88, 3) := by decide +kernel
theorem dX23_branch_34 : decode cX23_branch 34 = .ok (.aload_n 1, 1) := by decide +kernel
theorem dX23_branch_35 : decode cX23_branch 35 = .ok (.getfield 305, 3) := by decide +kernel
theorem dX23_branch_38 : decode cX23_branch 38 = .ok (.aload_n 1, 1) := by decide +kernel
theorem dX23_branch_39 : decode cX23_branch 39 = .ok (.getfield 301, 3) := by decide +kernel
theorem dX23_branch_42 : decode cX23_branch 42 = .ok (.arraylength, 1) := by decide +kernel
theorem dX23_branch_43 : decode cX23_branch 43 = .ok (.if_icmp .ne 7, 3) := by decide +kernel
theorem dX23_branch_46 : decode cX23_branch 46 = .ok (.aload_n 1, 1) := by decide +kernel
theorem dX23_branch_47 : decode cX23_branch 47 = .ok (.invokestatic 306, 3) := by decide +kernel
theorem dX23_branch_50 : decode cX23_branch 50 = .ok (.aload_n 0, 1) := by decide +kernel
theorem dX23_branch_51 : decode cX23_branch 51 = .ok (.bipush 15, 2) := by decide +kernel
theorem dX23_branch_53 : decode cX23_branch 53 = .ok (.invokevirtual 125, 3) := by decide +kernel
theorem dX23_branch_56 : decode cX23_branch 56 = .ok (.istore_n 3, 1) := by decide +kernel
theorem dX23_branch_57 : decode cX23_branch 57 = .ok (.iload_n 3, 1) := by decide +kernel
theorem dX23_branch_58 : decode cX23_branch 58 = .ok (.ifCond .eq 16, 3) := by decide +kernel
theorem dX23_branch_61 : decode cX23_branch 61 = .ok (.aload_n 1, 1) := by decide +kernel
theorem dX23_branch_62 : decode cX23_branch 62 = .ok (.getfield 297, 3) := by decide +kernel
theorem dX23_branch_65 : decode cX23_branch 65 = .ok (.aload_n 1, 1) := by decide +kernel
theorem dX23_branch_66 : decode cX23_branch 66 = .ok (.getfield 305, 3) := by decide +kernel
theorem dX23_branch_69 : decode cX23_branch 69 = .ok (.aload_n 0, 1) := by decide +kernel
theorem dX23_branch_70 : decode cX23_branch 70 = .ok (.invokevirtual 264, 3) := by decide +kernel
theorem dX23_branch_73 : decode cX23_branch 73 = .ok (.aastore, 1) := by decide +kernel
theorem dX23_branch_74 : decode cX23_branch 74 = .ok (.aload_n 1, 1) := by decide +kernel
theorem dX23_branch_75 : decode cX23_branch 75 = .ok (.getfield 301, 3) := by decide +kernel
theorem dX23_branch_78 : decode cX23_branch 78 = .ok (.aload_n 1, 1) := by decide +kernel
theorem dX23_branch_79 : decode cX23_branch 79 = .ok (.getfield 305, 3) := by decide +kernel
theorem dX23_branch_82 : decode cX23_branch 82 = .ok (.aload_n 0, 1) := by decide +kernel
theorem dX23_branch_83 : decode cX23_branch 83 = .ok (.invokevirtual 213, 3) := by decide +kernel
theorem dX23_branch_86 : decode cX23_branch 86 = .ok (.aastore, 1) := by decide +kernel
theorem dX23_branch_87 : decode cX23_branch 87 = .ok (.aload_n 1, 1) := by decide +kernel
theorem dX23_branch_88 : decode cX23_branch 88 = .ok (.dup, 1) := by decide +kernel
theorem dX23_branch_89 : decode cX23_branch 89 = .ok (.getfield 305, 3) := by decide +kernel
theorem dX23_branch_92 : decode cX23_branch 92 = .ok (.iconst 1, 1) := by decide +kernel
theorem dX23_branch_93 : decode cX23_branch 93 = .ok (.iadd, 1) := by decide +kernel
theorem dX23_branch_94 : decode cX23_branch 94 = .ok (.putfield 305, 3) := by decide +kernel
theorem dX23_branch_97 : decode cX23_branch 97 = .ok (.iload_n 3, 1) := by decide +kernel
theorem dX23_branch_98 : decode cX23_branch 98 = .ok (.ifCond .eq 16, 3) := by decide +kernel
theorem dX23_branch_101 : decode cX23_branch 101 = .ok (.aload_n 0, 1) := by decide +kernel
theorem dX23_branch_102 : decode cX23_branch 102 = .ok (.bipush 16, 2) := by decide +kernel
theorem dX23_branch_104 : decode cX23_branch 104 = .ok (.invokevirtual 125, 3) := by decide +kernel
theorem dX23_branch_107 : decode cX23_branch 107 = .ok (.ifCond .eq 7, 3) := by decide +kernel
theorem dX23_branch_110 : decode cX23_branch 110 = .ok (.iconst 1, 1) := by decide +kernel
theorem dX23_branch_111 : decode cX23_branch 111 = .ok (.goto 4, 3) := by decide +kernel
theorem dX23_branch_114 : decode cX23_branch 114 = .ok (.iconst 0, 1) := by decide +kernel
theorem dX23_branch_115 : decode cX23_branch 115 = .ok (.istore_n 2, 1) := by decide +kernel
theorem dX23_branch_116 : decode cX23_branch 116 = .ok (.goto (-93), 3) := by decide +kernel
theorem dX23_branch_119 : decode cX23_branch 119 = .ok (.return_, 1) := by decide +kernel
theorem dX23_growBranch_0 : decode cX23_growBranch 0 = .ok (.iconst 2, 1) := by decide +kernel
theorem dX23_growBranch_1 : decode cX23_growBranch 1 = .ok (.aload_n 0, 1) := by decide +kernel
theorem dX23_growBranch_2 : decode cX23_growBranch 2 = .ok (.getfield 305, 3) := by decide +kernel
theorem dX23_growBranch_5 : decode cX23_growBranch 5 = .ok (.imul, 1) := by decide +kernel
theorem dX23_growBranch_6 : decode cX23_growBranch 6 = .ok (.anewarray 295, 3) := by decide +kernel
theorem dX23_growBranch_9 : decode cX23_growBranch 9 = .ok (.astore_n 1, 1) := by decide +kernel
theorem dX23_growBranch_10 : decode cX23_growBranch 10 = .ok (.iconst 2, 1) := by decide +kernel
theorem dX23_growBranch_11 : decode cX23_growBranch 11 = .ok (.aload_n 0, 1) := by decide +kernel
theorem dX23_growBranch_12 : decode cX23_growBranch 12 = .ok (.getfield 305, 3) := by decide +kernel
theorem dX23_growBranch_15 : decode cX23_growBranch 15 = .ok (.imul, 1) := by decide +kernel
theorem dX23_growBranch_16 : decode cX23_growBranch 16 = .ok (.anewarray 236, 3) := by decide +kernel
theorem dX23_growBranch_19 : decode cX23_growBranch 19 = .ok (.astore_n 2, 1) := by decide +kernel
theorem dX23_growBranch_20 : decode cX23_growBranch 20 = .ok (.iconst 0, 1) := by decide +kernel
theorem dX23_growBranch_21 : decode cX23_growBranch 21 = .ok (.istore_n 3, 1) := by decide +kernel
theorem dX23_growBranch_22 : decode cX23_growBranch 22 = .ok (.iload_n 3, 1) := by decide +kernel
theorem dX23_growBranch_23 : decode cX23_growBranch 23 = .ok (.aload_n 0, 1) := by decide +kernel
theorem dX23_growBranch_24 : decode cX23_growBranch 24 = .ok (.getfield 305, 3) := by decide +kernel
theorem dX23_growBranch_27 : decode cX23_growBranch 27 = .ok (.if_icmp .ge 27, 3) := by decide +kernel
theorem dX23_growBranch_30 : decode cX23_growBranch 30 = .ok (.aload_n 1, 1) := by decide +kernel
theorem dX23_growBranch_31 : decode cX23_growBranch 31 = .ok (.iload_n 3, 1) := by decide +kernel
theorem dX23_growBranch_32 : decode cX23_growBranch 32 = .ok (.aload_n 0, 1) := by decide +kernel
theorem dX23_growBranch_33 : decode cX23_growBranch 33 = .ok (.getfield 297, 3) := by decide +kernel
theorem dX23_growBranch_36 : decode cX23_growBranch 36 = .ok (.iload_n 3, 1) := by decide +kernel
theorem dX23_growBranch_37 : decode cX23_growBranch 37 = .ok (.aaload, 1) := by decide +kernel
theorem dX23_growBranch_38 : decode cX23_growBranch 38 = .ok (.aastore, 1) := by decide +kernel
theorem dX23_growBranch_39 : decode cX23_growBranch 39 = .ok (.aload_n 2, 1) := by decide +kernel
theorem dX23_growBranch_40 : decode cX23_growBranch 40 = .ok (.iload_n 3, 1) := by decide +kernel
theorem dX23_growBranch_41 : decode cX23_growBranch 41 = .ok (.aload_n 0, 1) := by decide +kernel
theorem dX23_growBranch_42 : decode cX23_growBranch 42 = .ok (.getfield 301, 3) := by decide +kernel
theorem dX23_growBranch_45 : decode cX23_growBranch 45 = .ok (.iload_n 3, 1) := by decide +kernel
theorem dX23_growBranch_46 : decode cX23_growBranch 46 = .ok (.aaload, 1) := by decide +kernel
theorem dX23_growBranch_47 : decode cX23_growBranch 47 = .ok (.aastore, 1) := by decide +kernel
theorem dX23_growBranch_48 : decode cX23_growBranch 48 = .ok (.iinc 3 1, 3) := by decide +kernel
theorem dX23_growBranch_51 : decode cX23_growBranch 51 = .ok (.goto (-29), 3) := by decide +kernel
theorem dX23_growBranch_54 : decode cX23_growBranch 54 = .ok (.aload_n 0, 1) := by decide +kernel
theorem dX23_growBranch_55 : decode cX23_growBranch 55 = .ok (.aload_n 1, 1) := by decide +kernel
theorem dX23_growBranch_56 : decode cX23_growBranch 56 = .ok (.putfield 297, 3) := by decide +kernel
theorem dX23_growBranch_59 : decode cX23_growBranch 59 = .ok (.aload_n 0, 1) := by decide +kernel
theorem dX23_growBranch_60 : decode cX23_growBranch 60 = .ok (.aload_n 2, 1) := by decide +kernel
theorem dX23_growBranch_61 : decode cX23_growBranch 61 = .ok (.putfield 301, 3) := by decide +kernel
theorem dX23_growBranch_64 : decode cX23_growBranch 64 = .ok (.return_, 1) := by decide +kernel
theorem dX23_match_0 : decode cX23_match 0 = .ok (.aload_n 1, 1) := by decide +kernel
theorem dX23_match_1 : decode cX23_match 1 = .ok (.iconst 5, 1) := by decide +kernel
theorem dX23_match_2 : decode cX23_match 2 = .ok (.putfield 263, 3) := by decide +kernel
theorem dX23_match_5 : decode cX23_match 5 = .ok (.aload_n 0, 1) := by decide +kernel
theorem dX23_match_6 : decode cX23_match 6 = .ok (.dup, 1) := by decide +kernel
theorem dX23_match_7 : decode cX23_match 7 = .ok (.getfield 86, 3) := by decide +kernel
theorem dX23_match_10 : decode cX23_match 10 = .ok (.iconst 1, 1) := by decide +kernel
theorem dX23_match_11 : decode cX23_match 11 = .ok (.iadd, 1) := by decide +kernel
theorem dX23_match_12 : decode cX23_match 12 = .ok (.putfield 86, 3) := by decide +kernel
theorem dX23_match_15 : decode cX23_match 15 = .ok (.aload_n 0, 1) := by decide +kernel
theorem dX23_match_16 : decode cX23_match 16 = .ok (.bipush 55, 2) := by decide +kernel
theorem dX23_match_18 : decode cX23_match 18 = .ok (.invokevirtual 93, 3) := by decide +kernel
theorem dX23_match_21 : decode cX23_match 21 = .ok (.ifCond .eq 32, 3) := by decide +kernel
theorem dX23_match_24 : decode cX23_match 24 = .ok (.aload_n 0, 1) := by decide +kernel
theorem dX23_match_25 : decode cX23_match 25 = .ok (.invokevirtual 309, 3) := by decide +kernel
theorem dX23_match_28 : decode cX23_match 28 = .ok (.aload_n 0, 1) := by decide +kernel
theorem dX23_match_29 : decode cX23_match 29 = .ok (.dup, 1) := by decide +kernel
theorem dX23_match_30 : decode cX23_match 30 = .ok (.getfield 86, 3) := by decide +kernel
theorem dX23_match_33 : decode cX23_match 33 = .ok (.iconst 1, 1) := by decide +kernel
theorem dX23_match_34 : decode cX23_match 34 = .ok (.iadd, 1) := by decide +kernel
theorem dX23_match_35 : decode cX23_match 35 = .ok (.putfield 86, 3) := by decide +kernel
theorem dX23_match_38 : decode cX23_match 38 = .ok (.aload_n 1, 1) := by decide +kernel
theorem dX23_match_39 : decode cX23_match 39 = .ok (.iconst 1, 1) := by decide +kernel
theorem dX23_match_40 : decode cX23_match 40 = .ok (.putfield 312, 3) := by decide +kernel
theorem dX23_match_43 : decode cX23_match 43 = .ok (.aload_n 1, 1) := by decide +kernel
theorem dX23_match_44 : decode cX23_match 44 = .ok (.aload_n 0, 1) := by decide +kernel
theorem dX23_match_45 : decode cX23_match 45 = .ok (.bipush 14, 2) := by decide +kernel
theorem dX23_match_47 : decode cX23_match 47 = .ok (.invokevirtual 125, 3) := by decide +kernel
theorem dX23_match_50 : decode cX23_match 50 = .ok (.putfield 278, 3) := by decide +kernel
theorem dX23_match_53 : decode cX23_match 53 = .ok (.aload_n 1, 1) := by decide +kernel
theorem dX23_match_54 : decode cX23_match 54 = .ok (.aload_n 0, 1) := by decide +kernel
theorem dX23_match_55 : decode cX23_match 55 = .ok (.invokevirtual 264, 3) := by decide +kernel
theorem dX23_match_58 : decode cX23_match 58 = .ok (.putfield 268, 3) := by decide +kernel
theorem dX23_match_61 : decode cX23_match 61 = .ok (.aload_n 0, 1) := by decide +kernel
theorem dX23_match_62 : decode cX23_match 62 = .ok (.invokevirtual 89, 3) := by decide +kernel
theorem dX23_match_65 : decode cX23_match 65 = .ok (.ifCond .eq 29, 3) := by decide +kernel
theorem dX23_match_68 : decode cX23_match 68 = .ok (.aload_n 1, 1) := by decide +kernel
theorem dX23_match_69 : decode cX23_match 69 = .ok (.getfield 312, 3) := by decide +kernel
theorem dX23_match_72 : decode cX23_match 72 = .ok (.ifCond .eq 22, 3) := by decide +kernel
theorem dX23_match_75 : decode cX23_match 75 = .ok (.aload_n 1, 1) := by decide +kernel
theorem dX23_match_76 : decode cX23_match 76 = .ok (.getfield 268, 3) := by decide +kernel
theorem dX23_match_79 : decode cX23_match 79 = .ok (.invokestatic 288, 3) := by decide +kernel
theorem dX23_match_82 : decode cX23_match 82 = .ok (.ifCond .ne 12, 3) := by decide +kernel
theorem dX23_match_85 : decode cX23_match 85 = .ok (.aload_n 0, 1) := by decide +kernel
theorem dX23_match_86 : decode cX23_match 86 = .ok (.iconst 1, 1) := by decide +kernel
theorem dX23_match_87 : decode cX23_match 87 = .ok (.aload_n 0, 1) := by decide +kernel
theorem dX23_match_88 : decode cX23_match 88 = .ok (.getfield 86, 3) := by decide +kernel
theorem dX23_match_91 : decode cX23_match 91 = .ok (.invokevirtual 96, 3) := by decide +kernel
theorem dX23_match_94 : decode cX23_match 94 = .ok (.aload_n 0, 1) := by decide +kernel
theorem dX23_match_95 : decode cX23_match 95 = .ok (.invokevirtual 89, 3) := by decide +kernel
theorem dX23_match_98 : decode cX23_match 98 = .ok (.ifCond .ne 4, 3) := by decide +kernel
theorem dX23_match_101 : decode cX23_match 101 = .ok (.return_, 1) := by decide +kernel
theorem dX23_match_102 : decode cX23_match 102 = .ok (.aload_n 0, 1) := by decide +kernel
theorem dX23_match_103 : decode cX23_match 103 = .ok (.bipush 63, 2) := by decide +kernel
theorem dX23_match_105 : decode cX23_match 105 = .ok (.invokevirtual 93, 3) := by decide +kernel
theorem dX23_match_108 : decode cX23_match 108 = .ok (.ifCond .eq 14, 3) := by decide +kernel
theorem dX23_match_111 : decode cX23_match 111 = .ok (.aload_n 0, 1) := by decide +kernel
theorem dX23_match_112 : decode cX23_match 112 = .ok (.aload_n 0, 1) := by decide +kernel
theorem dX23_match_113 : decode cX23_match 113 = .ok (.getfield 86, 3) := by decide +kernel
theorem dX23_match_116 : decode cX23_match 116 = .ok (.invokevirtual 119, 3) := by decide +kernel
theorem dX23_match_119 : decode cX23_match 119 = .ok (.goto 13, 3) := by decide +kernel
theorem dX23_match_122 : decode cX23_match 122 = .ok (.aload_n 0, 1) := by decide +kernel
theorem dX23_match_123 : decode cX23_match 123 = .ok (.dup, 1) := by decide +kernel
theorem dX23_match_124 : decode cX23_match 124 = .ok (.getfield 104, 3) := by decide +kernel
theorem dX23_match_127 : decode cX23_match 127 = .ok (.iconst 1, 1) := by decide +kernel
theorem dX23_match_128 : decode cX23_match 128 = .ok (.iadd, 1) := by decide +kernel
theorem dX23_match_129 : decode cX23_match 129 = .ok (.putfield 104, 3) := by decide +kernel
theorem dX23_match_132 : decode cX23_match 132 = .ok (.aload_n 0, 1) := by decide +kernel
theorem dX23_match_133 : decode cX23_match 133 = .ok (.bipush 63, 2) := by decide +kernel
theorem dX23_match_135 : decode cX23_match 135 = .ok (.invokevirtual 100, 3) := by decide +kernel
theorem dX23_match_138 : decode cX23_match 138 = .ok (.aload_n 1, 1) := by decide +kernel
theorem dX23_match_139 : decode cX23_match 139 = .ok (.iconst 4, 1) := by decide +kernel
theorem dX23_match_140 : decode cX23_match 140 = .ok (.anewarray 315, 3) := by decide +kernel
theorem dX23_match_143 : decode cX23_match 143 = .ok (.putfield 317, 3) := by decide +kernel
theorem dX23_match_146 : decode cX23_match 146 = .ok (.aload_n 0, 1) := by decide +kernel
theorem dX23_match_147 : decode cX23_match 147 = .ok (.invokevirtual 89, 3) := by decide +kernel
theorem dX23_match_150 : decode cX23_match 150 = .ok (.ifCond .eq 90, 3) := by decide +kernel
theorem dX23_match_153 : decode cX23_match 153 = .ok (.aload_n 0, 1) := by decide +kernel
theorem dX23_match_154 : decode cX23_match 154 = .ok (.bipush 64, 2) := by decide +kernel
theorem dX23_match_156 : decode cX23_match 156 = .ok (.invokevirtual 93, 3) := by decide +kernel
theorem dX23_match_159 : decode cX23_match 159 = .ok (.ifCond .ne 81, 3) := by decide +kernel
theorem dX23_match_162 : decode cX23_match 162 = .ok (.aload_n 1, 1) := by decide +kernel
theorem dX23_match_163 : decode cX23_match 163 = .ok (.getfield 305, 3) := by decide +kernel
theorem dX23_match_166 : decode cX23_match 166 = .ok (.aload_n 1, 1) := by decide +kernel
theorem dX23_match_167 : decode cX23_match 167 = .ok (.getfield 317, 3) := by decide +kernel
theorem dX23_match_170 : decode cX23_match 170 = .ok (.arraylength, 1) := by decide +kernel
theorem dX23_match_171 : decode cX23_match 171 = .ok (.if_icmp .ne 43, 3) := by decide +kernel
theorem dX23_match_174 : decode cX23_match 174 = .ok (.iconst 2, 1) := by decide +kernel
theorem dX23_match_175 : decode cX23_match 175 = .ok (.aload_n 1, 1) := by decide +kernel
theorem dX23_match_176 : decode cX23_match 176 = .ok (.getfield 305, 3) := by decide +kernel
theorem dX23_match_179 : decode cX23_match 179 = .ok (.imul, 1) := by decide +kernel
theorem dX23_match_180 : decode cX23_match 180 = .ok (.anewarray 315, 3) := by decide +kernel
theorem dX23_match_183 : decode cX23_match 183 = .ok (.astore_n 2, 1) := by decide +kernel
theorem dX23_match_184 : decode cX23_match 184 = .ok (.iconst 0, 1) := by decide +kernel
theorem dX23_match_185 : decode cX23_match 185 = .ok (.istore_n 3, 1) := by decide +kernel
theorem dX23_match_186 : decode cX23_match 186 = .ok (.iload_n 3, 1) := by decide +kernel
theorem dX23_match_187 : decode cX23_match 187 = .ok (.aload_n 1, 1) := by decide +kernel
theorem dX23_match_188 : decode cX23_match 188 = .ok (.getfield 305, 3) := by decide +kernel
theorem dX23_match_191 : decode cX23_match 191 = .ok (.if_icmp .ge 18, 3) := by decide +kernel
theorem dX23_match_194 : decode cX23_match 194 = .ok (.aload_n 2, 1) := by decide +kernel
theorem dX23_match_195 : decode cX23_match 195 = .ok (.iload_n 3, 1) := by decide +kernel
theorem dX23_match_196 : decode cX23_match 196 = .ok (.aload_n 1, 1) := by decide +kernel
theorem dX23_match_197 : decode cX23_match 197 = .ok (.getfield 317, 3) := by decide +kernel
theorem dX23_match_200 : decode cX23_match 200 = .ok (.iload_n 3, 1) := by decide +kernel
theorem dX23_match_201 : decode cX23_match 201 = .ok (.aaload, 1) := by decide +kernel
theorem dX23_match_202 : decode cX23_match 202 = .ok (.aastore, 1) := by decide +kernel
theorem dX23_match_203 : decode cX23_match 203 = .ok (.iinc 3 1, 3) := by decide +kernel
theorem dX23_match_206 : decode cX23_match 206 = .ok (.goto (-20), 3) := by decide +kernel
theorem dX23_match_209 : decode cX23_match 209 = .ok (.aload_n 1, 1) := by decide +kernel
theorem dX23_match_210 : decode cX23_match 210 = .ok (.aload_n 2, 1) := by decide +kernel
theorem dX23_match_211 : decode cX23_match 211 = .ok (.putfield 317, 3) := by decide +kernel
theorem dX23_match_214 : decode cX23_match 214 = .ok (.aload_n 1, 1) := by decide +kernel
theorem dX23_match_215 : decode cX23_match 215 = .ok (.getfield 317, 3) := by decide +kernel
theorem dX23_match_218 : decode cX23_match 218 = .ok (.aload_n 1, 1) := by decide +kernel
theorem dX23_match_219 : decode cX23_match 219 = .ok (.getfield 305, 3) := by decide +kernel
theorem dX23_match_222 : decode cX23_match 222 = .ok (.aload_n 0, 1) := by decide +kernel
theorem dX23_match_223 : decode cX23_match 223 = .ok (.invokevirtual 321, 3) := by decide +kernel
theorem dX23_match_226 : decode cX23_match 226 = .ok (.aastore, 1) := by decide +kernel
theorem dX23_match_227 : decode cX23_match 227 = .ok (.aload_n 1, 1) := by decide +kernel
theorem dX23_match_228 : decode cX23_match 228 = .ok (.dup, 1) := by decide +kernel
theorem dX23_match_229 : decode cX23_match 229 = .ok (.getfield 305, 3) := by decide +kernel
theorem dX23_match_232 : decode cX23_match 232 = .ok (.iconst 1, 1) := by decide +kernel
theorem dX23_match_233 : decode cX23_match 233 = .ok (.iadd, 1) := by decide +kernel
theorem dX23_match_234 : decode cX23_match 234 = .ok (.putfield 305, 3) := by decide +kernel
theorem dX23_match_237 : decode cX23_match 237 = .ok (.goto (-91), 3) := by decide +kernel
theorem dX23_match_240 : decode cX23_match 240 = .ok (.aload_n 0, 1) := by decide +kernel
theorem dX23_match_241 : decode cX23_match 241 = .ok (.dup, 1) := by decide +kernel
theorem dX23_match_242 : decode cX23_match 242 = .ok (.getfield 104, 3) := by decide +kernel
theorem dX23_match_245 : decode cX23_match 245 = .ok (.iconst 1, 1) := by decide +kernel
theorem dX23_match_246 : decode cX23_match 246 = .ok (.isub, 1) := by decide +kernel
theorem dX23_match_247 : decode cX23_match 247 = .ok (.putfield 104, 3) := by decide +kernel
theorem dX23_match_250 : decode cX23_match 250 = .ok (.aload_n 0, 1) := by decide +kernel
theorem dX23_match_251 : decode cX23_match 251 = .ok (.bipush 64, 2) := by decide +kernel
theorem dX23_match_253 : decode cX23_match 253 = .ok (.invokevirtual 100, 3) := by decide +kernel
theorem dX23_match_256 : decode cX23_match 256 = .ok (.return_, 1) := by decide +kernel
theorem dX23_arm_0 : decode cX23_arm 0 = .ok (.new 315, 3) := by decide +kernel
theorem dX23_arm_3 : decode cX23_arm 3 = .ok (.dup, 1) := by decide +kernel
theorem dX23_arm_4 : decode cX23_arm 4 = .ok (.invokespecial 325, 3) := by decide +kernel
theorem dX23_arm_7 : decode cX23_arm 7 = .ok (.astore_n 1, 1) := by decide +kernel
theorem dX23_arm_8 : decode cX23_arm 8 = .ok (.aload_n 1, 1) := by decide +kernel
theorem dX23_arm_9 : decode cX23_arm 9 = .ok (.aload_n 0, 1) := by decide +kernel
theorem dX23_arm_10 : decode cX23_arm 10 = .ok (.invokevirtual 150, 3) := by decide +kernel
theorem dX23_arm_13 : decode cX23_arm 13 = .ok (.putfield 326, 3) := by decide +kernel
theorem dX23_arm_16 : decode cX23_arm 16 = .ok (.aload_n 0, 1) := by decide +kernel
theorem dX23_arm_17 : decode cX23_arm 17 = .ok (.bipush 61, 2) := by decide +kernel
theorem dX23_arm_19 : decode cX23_arm 19 = .ok (.invokevirtual 125, 3) := by decide +kernel
theorem dX23_arm_22 : decode cX23_arm 22 = .ok (.ifCond .eq 78, 3) := by decide +kernel
theorem dX23_arm_25 : decode cX23_arm 25 = .ok (.iconst 1, 1) := by decide +kernel
theorem dX23_arm_26 : decode cX23_arm 26 = .ok (.istore_n 2, 1) := by decide +kernel
theorem dX23_arm_27 : decode cX23_arm 27 = .ok (.aload_n 0, 1) := by decide +kernel
theorem dX23_arm_28 : decode cX23_arm 28 = .ok (.invokevirtual 89, 3) := by decide +kernel
theorem dX23_arm_31 : decode cX23_arm 31 = .ok (.ifCond .eq 63, 3) := by decide +kernel
theorem dX23_arm_34 : decode cX23_arm 34 = .ok (.iload_n 2, 1) := by decide +kernel
theorem dX23_arm_35 : decode cX23_arm 35 = .ok (.ifCond .eq 59, 3) := by decide +kernel
theorem dX23_arm_38 : decode cX23_arm 38 = .ok (.aload_n 0, 1) := by decide +kernel
theorem dX23_arm_39 : decode cX23_arm 39 = .ok (.aload_n 1, 1) := by decide +kernel
theorem dX23_arm_40 : decode cX23_arm 40 = .ok (.getfield 327, 3) := by decide +kernel
theorem dX23_arm_43 : decode cX23_arm 43 = .ok (.bipush 12, 2) := by decide +kernel
theorem dX23_arm_45 : decode cX23_arm 45 = .ok (.invokevirtual 144, 3) := by decide +kernel
theorem dX23_arm_48 : decode cX23_arm 48 = .ok (.aload_n 0, 1) := by decide +kernel
theorem dX23_arm_49 : decode cX23_arm 49 = .ok (.invokevirtual 282, 3) := by decide +kernel
theorem dX23_arm_52 : decode cX23_arm 52 = .ok (.aload_n 0, 1) := by decide +kernel
theorem dX23_arm_53 : decode cX23_arm 53 = .ok (.invokevirtual 150, 3) := by decide +kernel
theorem dX23_arm_56 : decode cX23_arm 56 = .ok (.istore_n 3, 1) := by decide +kernel
theorem dX23_arm_57 : decode cX23_arm 57 = .ok (.aload_n 0, 1) := by decide +kernel
theorem dX23_arm_58 : decode cX23_arm 58 = .ok (.invokevirtual 89, 3) := by decide +kernel
theorem dX23_arm_61 : decode cX23_arm 61 = .ok (.ifCond .eq 13, 3) := by decide +kernel
theorem dX23_arm_64 : decode cX23_arm 64 = .ok (.aload_n 1, 1) := by decide +kernel
theorem dX23_arm_65 : decode cX23_arm 65 = .ok (.getfield 328, 3) := by decide +kernel
theorem dX23_arm_68 : decode cX23_arm 68 = .ok (.aload_n 1, 1) := by decide +kernel
theorem dX23_arm_69 : decode cX23_arm 69 = .ok (.getfield 327, 3) := by decide +kernel
theorem dX23_arm_72 : decode cX23_arm 72 = .ok (.iload_n 3, 1) := by decide +kernel
theorem dX23_arm_73 : decode cX23_arm 73 = .ok (.iastore, 1) := by decide +kernel
theorem dX23_arm_74 : decode cX23_arm 74 = .ok (.aload_n 1, 1) := by decide +kernel
theorem dX23_arm_75 : decode cX23_arm 75 = .ok (.dup, 1) := by decide +kernel
theorem dX23_arm_76 : decode cX23_arm 76 = .ok (.getfield 327, 3) := by decide +kernel
theorem dX23_arm_79 : decode cX23_arm 79 = .ok (.iconst 1, 1) := by decide +kernel
theorem dX23_arm_80 : decode cX23_arm 80 = .ok (.iadd, 1) := by decide +kernel
theorem dX23_arm_81 : decode cX23_arm 81 = .ok (.putfield 327, 3) := by decide +kernel
theorem dX23_arm_84 : decode cX23_arm 84 = .ok (.aload_n 0, 1) := by decide +kernel
theorem dX23_arm_85 : decode cX23_arm 85 = .ok (.bipush 57, 2) := by decide +kernel
theorem dX23_arm_87 : decode cX23_arm 87 = .ok (.invokevirtual 125, 3) := by decide +kernel
theorem dX23_arm_90 : decode cX23_arm 90 = .ok (.istore_n 2, 1) := by decide +kernel
theorem dX23_arm_91 : decode cX23_arm 91 = .ok (.goto (-64), 3) := by decide +kernel
theorem dX23_arm_94 : decode cX23_arm 94 = .ok (.aload_n 0, 1) := by decide +kernel
theorem dX23_arm_95 : decode cX23_arm 95 = .ok (.bipush 62, 2) := by decide +kernel
theorem dX23_arm_97 : decode cX23_arm 97 = .ok (.invokevirtual 100, 3) := by decide +kernel
theorem dX23_arm_100 : decode cX23_arm 100 = .ok (.aload_n 0, 1) := by decide +kernel
theorem dX23_arm_101 : decode cX23_arm 101 = .ok (.bipush 66, 2) := by decide +kernel
theorem dX23_arm_103 : decode cX23_arm 103 = .ok (.invokevirtual 100, 3) := by decide +kernel
theorem dX23_arm_106 : decode cX23_arm 106 = .ok (.aload_n 1, 1) := by decide +kernel
theorem dX23_arm_107 : decode cX23_arm 107 = .ok (.aload_n 0, 1) := by decide +kernel
theorem dX23_arm_108 : decode cX23_arm 108 = .ok (.invokevirtual 213, 3) := by decide +kernel
theorem dX23_arm_111 : decode cX23_arm 111 = .ok (.putfield 329, 3) := by decide +kernel
theorem dX23_arm_114 : decode cX23_arm 114 = .ok (.aload_n 1, 1) := by decide +kernel
theorem dX23_arm_115 : decode cX23_arm 115 = .ok (.areturn, 1) := by decide +kernel
