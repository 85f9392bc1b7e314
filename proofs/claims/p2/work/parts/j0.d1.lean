theorem dX23_at_0 : decode cX23_at 0 = .ok (.iload_n 1, 1) := by decide +kernel
theorem dX23_at_1 : decode cX23_at 1 = .ok (.aload_n 0, 1) := by decide +kernel
theorem dX23_at_2 : decode cX23_at 2 = .ok (.getfield 1, 3) := by decide +kernel
theorem dX23_at_5 : decode cX23_at 5 = .ok (.if_icmp .ge 12, 3) := by decide +kernel
theorem dX23_at_8 : decode cX23_at 8 = .ok (.aload_n 0, 1) := by decide +kernel
theorem dX23_at_9 : decode cX23_at 9 = .ok (.getfield 7, 3) := by decide +kernel
theorem dX23_at_12 : decode cX23_at 12 = .ok (.iload_n 1, 1) := by decide +kernel
theorem dX23_at_13 : decode cX23_at 13 = .ok (.iaload, 1) := by decide +kernel
theorem dX23_at_14 : decode cX23_at 14 = .ok (.goto 4, 3) := by decide +kernel
theorem dX23_at_17 : decode cX23_at 17 = .ok (.iconst (-1), 1) := by decide +kernel
theorem dX23_at_18 : decode cX23_at 18 = .ok (.ireturn, 1) := by decide +kernel
theorem dX23_isLetter_0 : decode cX23_isLetter 0 = .ok (.iload_n 0, 1) := by decide +kernel
theorem dX23_isLetter_1 : decode cX23_isLetter 1 = .ok (.bipush 97, 2) := by decide +kernel
theorem dX23_isLetter_3 : decode cX23_isLetter 3 = .ok (.if_icmp .lt 9, 3) := by decide +kernel
theorem dX23_isLetter_6 : decode cX23_isLetter 6 = .ok (.iload_n 0, 1) := by decide +kernel
theorem dX23_isLetter_7 : decode cX23_isLetter 7 = .ok (.bipush 122, 2) := by decide +kernel
theorem dX23_isLetter_9 : decode cX23_isLetter 9 = .ok (.if_icmp .le 21, 3) := by decide +kernel
theorem dX23_isLetter_12 : decode cX23_isLetter 12 = .ok (.iload_n 0, 1) := by decide +kernel
theorem dX23_isLetter_13 : decode cX23_isLetter 13 = .ok (.bipush 65, 2) := by decide +kernel
theorem dX23_isLetter_15 : decode cX23_isLetter 15 = .ok (.if_icmp .lt 9, 3) := by decide +kernel
theorem dX23_isLetter_18 : decode cX23_isLetter 18 = .ok (.iload_n 0, 1) := by decide +kernel
theorem dX23_isLetter_19 : decode cX23_isLetter 19 = .ok (.bipush 90, 2) := by decide +kernel
theorem dX23_isLetter_21 : decode cX23_isLetter 21 = .ok (.if_icmp .le 9, 3) := by decide +kernel
theorem dX23_isLetter_24 : decode cX23_isLetter 24 = .ok (.iload_n 0, 1) := by decide +kernel
theorem dX23_isLetter_25 : decode cX23_isLetter 25 = .ok (.bipush 95, 2) := by decide +kernel
theorem dX23_isLetter_27 : decode cX23_isLetter 27 = .ok (.if_icmp .ne 7, 3) := by decide +kernel
theorem dX23_isLetter_30 : decode cX23_isLetter 30 = .ok (.iconst 1, 1) := by decide +kernel
theorem dX23_isLetter_31 : decode cX23_isLetter 31 = .ok (.goto 4, 3) := by decide +kernel
theorem dX23_isLetter_34 : decode cX23_isLetter 34 = .ok (.iconst 0, 1) := by decide +kernel
theorem dX23_isLetter_35 : decode cX23_isLetter 35 = .ok (.ireturn, 1) := by decide +kernel
theorem dX23_isDigit_0 : decode cX23_isDigit 0 = .ok (.iload_n 0, 1) := by decide +kernel
theorem dX23_isDigit_1 : decode cX23_isDigit 1 = .ok (.bipush 48, 2) := by decide +kernel
theorem dX23_isDigit_3 : decode cX23_isDigit 3 = .ok (.if_icmp .lt 13, 3) := by decide +kernel
theorem dX23_isDigit_6 : decode cX23_isDigit 6 = .ok (.iload_n 0, 1) := by decide +kernel
theorem dX23_isDigit_7 : decode cX23_isDigit 7 = .ok (.bipush 57, 2) := by decide +kernel
theorem dX23_isDigit_9 : decode cX23_isDigit 9 = .ok (.if_icmp .gt 7, 3) := by decide +kernel
theorem dX23_isDigit_12 : decode cX23_isDigit 12 = .ok (.iconst 1, 1) := by decide +kernel
theorem dX23_isDigit_13 : decode cX23_isDigit 13 = .ok (.goto 4, 3) := by decide +kernel
theorem dX23_isDigit_16 : decode cX23_isDigit 16 = .ok (.iconst 0, 1) := by decide +kernel
theorem dX23_isDigit_17 : decode cX23_isDigit 17 = .ok (.ireturn, 1) := by decide +kernel
theorem dX23_behindBlanks_0 : decode cX23_behindBlanks 0 = .ok (.iload_n 1, 1) := by decide +kernel
theorem dX23_behindBlanks_1 : decode cX23_behindBlanks 1 = .ok (.istore_n 2, 1) := by decide +kernel
theorem dX23_behindBlanks_2 : decode cX23_behindBlanks 2 = .ok (.iconst 1, 1) := by decide +kernel
theorem dX23_behindBlanks_3 : decode cX23_behindBlanks 3 = .ok (.istore_n 3, 1) := by decide +kernel
theorem dX23_behindBlanks_4 : decode cX23_behindBlanks 4 = .ok (.iload_n 3, 1) := by decide +kernel
theorem dX23_behindBlanks_5 : decode cX23_behindBlanks 5 = .ok (.ifCond .eq 142, 3) := by decide +kernel
theorem dX23_behindBlanks_8 : decode cX23_behindBlanks 8 = .ok (.iconst 0, 1) := by decide +kernel
theorem dX23_behindBlanks_9 : decode cX23_behindBlanks 9 = .ok (.istore_n 3, 1) := by decide +kernel
theorem dX23_behindBlanks_10 : decode cX23_behindBlanks 10 = .ok (.aload_n 0, 1) := by decide +kernel
theorem dX23_behindBlanks_11 : decode cX23_behindBlanks 11 = .ok (.iload_n 2, 1) := by decide +kernel
theorem dX23_behindBlanks_12 : decode cX23_behindBlanks 12 = .ok (.invokevirtual 11, 3) := by decide +kernel
theorem dX23_behindBlanks_15 : decode cX23_behindBlanks 15 = .ok (.bipush 9, 2) := by decide +kernel
theorem dX23_behindBlanks_17 : decode cX23_behindBlanks 17 = .ok (.if_icmp .eq 33, 3) := by decide +kernel
theorem dX23_behindBlanks_20 : decode cX23_behindBlanks 20 = .ok (.aload_n 0, 1) := by decide +kernel
theorem dX23_behindBlanks_21 : decode cX23_behindBlanks 21 = .ok (.iload_n 2, 1) := by decide +kernel
theorem dX23_behindBlanks_22 : decode cX23_behindBlanks 22 = .ok (.invokevirtual 11, 3) := by decide +kernel
theorem dX23_behindBlanks_25 : decode cX23_behindBlanks 25 = .ok (.bipush 10, 2) := by decide +kernel
theorem dX23_behindBlanks_27 : decode cX23_behindBlanks 27 = .ok (.if_icmp .eq 23, 3) := by decide +kernel
theorem dX23_behindBlanks_30 : decode cX23_behindBlanks 30 = .ok (.aload_n 0, 1) := by decide +kernel
theorem dX23_behindBlanks_31 : decode cX23_behindBlanks 31 = .ok (.iload_n 2, 1) := by decide +kernel
theorem dX23_behindBlanks_32 : decode cX23_behindBlanks 32 = .ok (.invokevirtual 11, 3) := by decide +kernel
theorem dX23_behindBlanks_35 : decode cX23_behindBlanks 35 = .ok (.bipush 13, 2) := by decide +kernel
theorem dX23_behindBlanks_37 : decode cX23_behindBlanks 37 = .ok (.if_icmp .eq 13, 3) := by decide +kernel
theorem dX23_behindBlanks_40 : decode cX23_behindBlanks 40 = .ok (.aload_n 0, 1) := by decide +kernel
theorem dX23_behindBlanks_41 : decode cX23_behindBlanks 41 = .ok (.iload_n 2, 1) := by decide +kernel
theorem dX23_behindBlanks_42 : decode cX23_behindBlanks 42 = .ok (.invokevirtual 11, 3) := by decide +kernel
theorem dX23_behindBlanks_45 : decode cX23_behindBlanks 45 = .ok (.bipush 32, 2) := by decide +kernel
theorem dX23_behindBlanks_47 : decode cX23_behindBlanks 47 = .ok (.if_icmp .ne 9, 3) := by decide +kernel
theorem dX23_behindBlanks_50 : decode cX23_behindBlanks 50 = .ok (.iinc 2 1, 3) := by decide +kernel
theorem dX23_behindBlanks_53 : decode cX23_behindBlanks 53 = .ok (.goto (-43), 3) := by decide +kernel
theorem dX23_behindBlanks_56 : decode cX23_behindBlanks 56 = .ok (.aload_n 0, 1) := by decide +kernel
theorem dX23_behindBlanks_57 : decode cX23_behindBlanks 57 = .ok (.iload_n 2, 1) := by decide +kernel
theorem dX23_behindBlanks_58 : decode cX23_behindBlanks 58 = .ok (.invokevirtual 11, 3) := by decide +kernel
theorem dX23_behindBlanks_61 : decode cX23_behindBlanks 61 = .ok (.bipush 47, 2) := by decide +kernel
theorem dX23_behindBlanks_63 : decode cX23_behindBlanks 63 = .ok (.if_icmp .ne (-59), 3) := by decide +kernel
theorem dX23_behindBlanks_66 : decode cX23_behindBlanks 66 = .ok (.aload_n 0, 1) := by decide +kernel
theorem dX23_behindBlanks_67 : decode cX23_behindBlanks 67 = .ok (.iload_n 2, 1) := by decide +kernel
theorem dX23_behindBlanks_68 : decode cX23_behindBlanks 68 = .ok (.iconst 1, 1) := by decide +kernel
theorem dX23_behindBlanks_69 : decode cX23_behindBlanks 69 = .ok (.iadd, 1) := by decide +kernel
theorem dX23_behindBlanks_70 : decode cX23_behindBlanks 70 = .ok (.invokevirtual 11, 3) := by decide +kernel
theorem dX23_behindBlanks_73 : decode cX23_behindBlanks 73 = .ok (.bipush 47, 2) := by decide +kernel
theorem dX23_behindBlanks_75 : decode cX23_behindBlanks 75 = .ok (.if_icmp .ne (-71), 3) := by decide +kernel
theorem dX23_behindBlanks_78 : decode cX23_behindBlanks 78 = .ok (.iload_n 2, 1) := by decide +kernel
theorem dX23_behindBlanks_79 : decode cX23_behindBlanks 79 = .ok (.aload_n 0, 1) := by decide +kernel
theorem dX23_behindBlanks_80 : decode cX23_behindBlanks 80 = .ok (.getfield 1, 3) := by decide +kernel
theorem dX23_behindBlanks_83 : decode cX23_behindBlanks 83 = .ok (.if_icmp .ge 59, 3) := by decide +kernel
theorem dX23_behindBlanks_86 : decode cX23_behindBlanks 86 = .ok (.aload_n 0, 1) := by decide +kernel
theorem dX23_behindBlanks_87 : decode cX23_behindBlanks 87 = .ok (.iload_n 2, 1) := by decide +kernel
theorem dX23_behindBlanks_88 : decode cX23_behindBlanks 88 = .ok (.invokevirtual 11, 3) := by decide +kernel
theorem dX23_behindBlanks_91 : decode cX23_behindBlanks 91 = .ok (.bipush 10, 2) := by decide +kernel
theorem dX23_behindBlanks_93 : decode cX23_behindBlanks 93 = .ok (.if_icmp .eq 49, 3) := by decide +kernel
theorem dX23_behindBlanks_96 : decode cX23_behindBlanks 96 = .ok (.aload_n 0, 1) := by decide +kernel
theorem dX23_behindBlanks_97 : decode cX23_behindBlanks 97 = .ok (.iload_n 2, 1) := by decide +kernel
theorem dX23_behindBlanks_98 : decode cX23_behindBlanks 98 = .ok (.invokevirtual 11, 3) := by decide +kernel
theorem dX23_behindBlanks_101 : decode cX23_behindBlanks 101 = .ok (.bipush 9, 2) := by decide +kernel
theorem dX23_behindBlanks_103 : decode cX23_behindBlanks 103 = .ok (.if_icmp .eq 33, 3) := by decide +kernel
theorem dX23_behindBlanks_106 : decode cX23_behindBlanks 106 = .ok (.aload_n 0, 1) := by decide +kernel
theorem dX23_behindBlanks_107 : decode cX23_behindBlanks 107 = .ok (.iload_n 2, 1) := by decide +kernel
theorem dX23_behindBlanks_108 : decode cX23_behindBlanks 108 = .ok (.invokevirtual 11, 3) := by decide +kernel
theorem dX23_behindBlanks_111 : decode cX23_behindBlanks 111 = .ok (.bipush 13, 2) := by decide +kernel
theorem dX23_behindBlanks_113 : decode cX23_behindBlanks 113 = .ok (.if_icmp .eq 23, 3) := by decide +kernel
theorem dX23_behindBlanks_116 : decode cX23_behindBlanks 116 = .ok (.aload_n 0, 1) := by decide +kernel
theorem dX23_behindBlanks_117 : decode cX23_behindBlanks 117 = .ok (.iload_n 2, 1) := by decide +kernel
theorem dX23_behindBlanks_118 : decode cX23_behindBlanks 118 = .ok (.invokevirtual 11, 3) := by decide +kernel
theorem dX23_behindBlanks_121 : decode cX23_behindBlanks 121 = .ok (.bipush 32, 2) := by decide +kernel
theorem dX23_behindBlanks_123 : decode cX23_behindBlanks 123 = .ok (.if_icmp .lt 19, 3) := by decide +kernel
theorem dX23_behindBlanks_126 : decode cX23_behindBlanks 126 = .ok (.aload_n 0, 1) := by decide +kernel
theorem dX23_behindBlanks_127 : decode cX23_behindBlanks 127 = .ok (.iload_n 2, 1) := by decide +kernel
theorem dX23_behindBlanks_128 : decode cX23_behindBlanks 128 = .ok (.invokevirtual 11, 3) := by decide +kernel
theorem dX23_behindBlanks_131 : decode cX23_behindBlanks 131 = .ok (.bipush 126, 2) := by decide +kernel
theorem dX23_behindBlanks_133 : decode cX23_behindBlanks 133 = .ok (.if_icmp .gt 9, 3) := by decide +kernel
theorem dX23_behindBlanks_136 : decode cX23_behindBlanks 136 = .ok (.iinc 2 1, 3) := by decide +kernel
theorem dX23_behindBlanks_139 : decode cX23_behindBlanks 139 = .ok (.goto (-61), 3) := by decide +kernel
theorem dX23_behindBlanks_142 : decode cX23_behindBlanks 142 = .ok (.iconst 1, 1) := by decide +kernel
theorem dX23_behindBlanks_143 : decode cX23_behindBlanks 143 = .ok (.istore_n 3, 1) := by decide +kernel
theorem dX23_behindBlanks_144 : decode cX23_behindBlanks 144 = .ok (.goto (-140), 3) := by decide +kernel
theorem dX23_behindBlanks_147 : decode cX23_behindBlanks 147 = .ok (.iload_n 2, 1) := by decide +kernel
theorem dX23_behindBlanks_148 : decode cX23_behindBlanks 148 = .ok (.ireturn, 1) := by decide +kernel
theorem dX23_wordLength_0 : decode cX23_wordLength 0 = .ok (.iconst 0, 1) := by decide +kernel
theorem dX23_wordLength_1 : decode cX23_wordLength 1 = .ok (.istore_n 2, 1) := by decide +kernel
theorem dX23_wordLength_2 : decode cX23_wordLength 2 = .ok (.lload_n 0, 1) := by decide +kernel
theorem dX23_wordLength_3 : decode cX23_wordLength 3 = .ok (.bipush 8, 2) := by decide +kernel
theorem dX23_wordLength_5 : decode cX23_wordLength 5 = .ok (.iload_n 2, 1) := by decide +kernel
theorem dX23_wordLength_6 : decode cX23_wordLength 6 = .ok (.imul, 1) := by decide +kernel
theorem dX23_wordLength_7 : decode cX23_wordLength 7 = .ok (.lushr, 1) := by decide +kernel
theorem dX23_wordLength_8 : decode cX23_wordLength 8 = .ok (.lconst 0, 1) := by decide +kernel
theorem dX23_wordLength_9 : decode cX23_wordLength 9 = .ok (.lcmp, 1) := by decide +kernel
theorem dX23_wordLength_10 : decode cX23_wordLength 10 = .ok (.ifCond .eq 9, 3) := by decide +kernel
theorem dX23_wordLength_13 : decode cX23_wordLength 13 = .ok (.iinc 2 1, 3) := by decide +kernel
theorem dX23_wordLength_16 : decode cX23_wordLength 16 = .ok (.goto (-14), 3) := by decide +kernel
theorem dX23_wordLength_19 : decode cX23_wordLength 19 = .ok (.iload_n 2, 1) := by decide +kernel
theorem dX23_wordLength_20 : decode cX23_wordLength 20 = .ok (.ireturn, 1) := by decide +kernel
theorem dX23_wordOf_0 : decode cX23_wordOf 0 = .ok (.iconst 0, 1) := by decide +kernel
theorem dX23_wordOf_1 : decode cX23_wordOf 1 = .ok (.istore_n 3, 1) := by decide +kernel
theorem dX23_wordOf_2 : decode cX23_wordOf 2 = .ok (.iload_n 3, 1) := by decide +kernel
theorem dX23_wordOf_3 : decode cX23_wordOf 3 = .ok (.getstatic 15, 3) := by decide +kernel
theorem dX23_wordOf_6 : decode cX23_wordOf 6 = .ok (.arraylength, 1) := by decide +kernel
theorem dX23_wordOf_7 : decode cX23_wordOf 7 = .ok (.if_icmp .ge 105, 3) := by decide +kernel
theorem dX23_wordOf_10 : decode cX23_wordOf 10 = .ok (.getstatic 15, 3) := by decide +kernel
theorem dX23_wordOf_13 : decode cX23_wordOf 13 = .ok (.iload_n 3, 1) := by decide +kernel
theorem dX23_wordOf_14 : decode cX23_wordOf 14 = .ok (.laload, 1) := by decide +kernel
theorem dX23_wordOf_15 : decode cX23_wordOf 15 = .ok (.invokestatic 19, 3) := by decide +kernel
theorem dX23_wordOf_18 : decode cX23_wordOf 18 = .ok (.istore 4, 2) := by decide +kernel
theorem dX23_wordOf_20 : decode cX23_wordOf 20 = .ok (.iload_n 2, 1) := by decide +kernel
theorem dX23_wordOf_21 : decode cX23_wordOf 21 = .ok (.iload_n 1, 1) := by decide +kernel
theorem dX23_wordOf_22 : decode cX23_wordOf 22 = .ok (.isub, 1) := by decide +kernel
theorem dX23_wordOf_23 : decode cX23_wordOf 23 = .ok (.iload 4, 2) := by decide +kernel
theorem dX23_wordOf_25 : decode cX23_wordOf 25 = .ok (.if_icmp .ne 7, 3) := by decide +kernel
theorem dX23_wordOf_28 : decode cX23_wordOf 28 = .ok (.iconst 1, 1) := by decide +kernel
theorem dX23_wordOf_29 : decode cX23_wordOf 29 = .ok (.goto 4, 3) := by decide +kernel
theorem dX23_wordOf_32 : decode cX23_wordOf 32 = .ok (.iconst 0, 1) := by decide +kernel
theorem dX23_wordOf_33 : decode cX23_wordOf 33 = .ok (.istore 5, 2) := by decide +kernel
theorem dX23_wordOf_35 : decode cX23_wordOf 35 = .ok (.iconst 0, 1) := by decide +kernel
theorem dX23_wordOf_36 : decode cX23_wordOf 36 = .ok (.istore 6, 2) := by decide +kernel
theorem dX23_wordOf_38 : decode cX23_wordOf 38 = .ok (.iload 6, 2) := by decide +kernel
theorem dX23_wordOf_40 : decode cX23_wordOf 40 = .ok (.iload 4, 2) := by decide +kernel
theorem dX23_wordOf_42 : decode cX23_wordOf 42 = .ok (.if_icmp .ge 54, 3) := by decide +kernel
theorem dX23_wordOf_45 : decode cX23_wordOf 45 = .ok (.iload 5, 2) := by decide +kernel
theorem dX23_wordOf_47 : decode cX23_wordOf 47 = .ok (.ifCond .eq 49, 3) := by decide +kernel
theorem dX23_wordOf_50 : decode cX23_wordOf 50 = .ok (.aload_n 0, 1) := by decide +kernel
theorem dX23_wordOf_51 : decode cX23_wordOf 51 = .ok (.getfield 7, 3) := by decide +kernel
theorem dX23_wordOf_54 : decode cX23_wordOf 54 = .ok (.iload_n 1, 1) := by decide +kernel
theorem dX23_wordOf_55 : decode cX23_wordOf 55 = .ok (.iload 6, 2) := by decide +kernel
theorem dX23_wordOf_57 : decode cX23_wordOf 57 = .ok (.iadd, 1) := by decide +kernel
theorem dX23_wordOf_58 : decode cX23_wordOf 58 = .ok (.iaload, 1) := by decide +kernel
theorem dX23_wordOf_59 : decode cX23_wordOf 59 = .ok (.getstatic 15, 3) := by decide +kernel
theorem dX23_wordOf_62 : decode cX23_wordOf 62 = .ok (.iload_n 3, 1) := by decide +kernel
theorem dX23_wordOf_63 : decode cX23_wordOf 63 = .ok (.laload, 1) := by decide +kernel
theorem dX23_wordOf_64 : decode cX23_wordOf 64 = .ok (.bipush 8, 2) := by decide +kernel
theorem dX23_wordOf_66 : decode cX23_wordOf 66 = .ok (.iload 4, 2) := by decide +kernel
theorem dX23_wordOf_68 : decode cX23_wordOf 68 = .ok (.iconst 1, 1) := by decide +kernel
theorem dX23_wordOf_69 : decode cX23_wordOf 69 = .ok (.isub, 1) := by decide +kernel
theorem dX23_wordOf_70 : decode cX23_wordOf 70 = .ok (.iload 6, 2) := by decide +kernel
theorem dX23_wordOf_72 : decode cX23_wordOf 72 = .ok (.isub, 1) := by decide +kernel
theorem dX23_wordOf_73 : decode cX23_wordOf 73 = .ok (.imul, 1) := by decide +kernel
theorem dX23_wordOf_74 : decode cX23_wordOf 74 = .ok (.lushr, 1) := by decide +kernel
theorem dX23_wordOf_75 : decode cX23_wordOf 75 = .ok (.ldc2_w 23, 3) := by decide +kernel
theorem dX23_wordOf_78 : decode cX23_wordOf 78 = .ok (.land, 1) := by decide +kernel
theorem dX23_wordOf_79 : decode cX23_wordOf 79 = .ok (.l2i, 1) := by decide +kernel
theorem dX23_wordOf_80 : decode cX23_wordOf 80 = .ok (.if_icmp .ne 7, 3) := by decide +kernel
theorem dX23_wordOf_83 : decode cX23_wordOf 83 = .ok (.iconst 1, 1) := by decide +kernel
theorem dX23_wordOf_84 : decode cX23_wordOf 84 = .ok (.goto 4, 3) := by decide +kernel
theorem dX23_wordOf_87 : decode cX23_wordOf 87 = .ok (.iconst 0, 1) := by decide +kernel
theorem dX23_wordOf_88 : decode cX23_wordOf 88 = .ok (.istore 5, 2) := by decide +kernel
theorem dX23_wordOf_90 : decode cX23_wordOf 90 = .ok (.iinc 6 1, 3) := by decide +kernel
theorem dX23_wordOf_93 : decode cX23_wordOf 93 = .ok (.goto (-55), 3) := by decide +kernel
theorem dX23_wordOf_96 : decode cX23_wordOf 96 = .ok (.iload 5, 2) := by decide +kernel
theorem dX23_wordOf_98 : decode cX23_wordOf 98 = .ok (.ifCond .eq 8, 3) := by decide +kernel
theorem dX23_wordOf_101 : decode cX23_wordOf 101 = .ok (.bipush 10, 2) := by decide +kernel
theorem dX23_wordOf_103 : decode cX23_wordOf 103 = .ok (.iload_n 3, 1) := by decide +kernel
theorem dX23_wordOf_104 : decode cX23_wordOf 104 = .ok (.iadd, 1) := by decide +kernel
theorem dX23_wordOf_105 : decode cX23_wordOf 105 = .ok (.ireturn, 1) := by decide +kernel
theorem dX23_wordOf_106 : decode cX23_wordOf 106 = .ok (.iinc 3 1, 3) := by decide +kernel
theorem dX23_wordOf_109 : decode cX23_wordOf 109 = .ok (.goto (-107), 3) := by decide +kernel
theorem dX23_wordOf_112 : decode cX23_wordOf 112 = .ok (.iconst 2, 1) := by decide +kernel
theorem dX23_wordOf_113 : decode cX23_wordOf 113 = .ok (.ireturn, 1) := by decide +kernel
theorem dX23_addToken_0 : decode cX23_addToken 0 = .ok (.aload_n 0, 1) := by decide +kernel
theorem dX23_addToken_1 : decode cX23_addToken 1 = .ok (.getfield 25, 3) := by decide +kernel
theorem dX23_addToken_4 : decode cX23_addToken 4 = .ok (.aload_n 0, 1) := by decide +kernel
theorem dX23_addToken_5 : decode cX23_addToken 5 = .ok (.getfield 28, 3) := by decide +kernel
theorem dX23_addToken_8 : decode cX23_addToken 8 = .ok (.iload_n 1, 1) := by decide +kernel
theorem dX23_addToken_9 : decode cX23_addToken 9 = .ok (.iastore, 1) := by decide +kernel
theorem dX23_addToken_10 : decode cX23_addToken 10 = .ok (.aload_n 0, 1) := by decide +kernel
theorem dX23_addToken_11 : decode cX23_addToken 11 = .ok (.getfield 31, 3) := by decide +kernel
theorem dX23_addToken_14 : decode cX23_addToken 14 = .ok (.aload_n 0, 1) := by decide +kernel
theorem dX23_addToken_15 : decode cX23_addToken 15 = .ok (.getfield 28, 3) := by decide +kernel
theorem dX23_addToken_18 : decode cX23_addToken 18 = .ok (.iload_n 2, 1) := by decide +kernel
theorem dX23_addToken_19 : decode cX23_addToken 19 = .ok (.iastore, 1) := by decide +kernel
theorem dX23_addToken_20 : decode cX23_addToken 20 = .ok (.aload_n 0, 1) := by decide +kernel
theorem dX23_addToken_21 : decode cX23_addToken 21 = .ok (.getfield 34, 3) := by decide +kernel
theorem dX23_addToken_24 : decode cX23_addToken 24 = .ok (.aload_n 0, 1) := by decide +kernel
theorem dX23_addToken_25 : decode cX23_addToken 25 = .ok (.getfield 28, 3) := by decide +kernel
theorem dX23_addToken_28 : decode cX23_addToken 28 = .ok (.iload_n 3, 1) := by decide +kernel
theorem dX23_addToken_29 : decode cX23_addToken 29 = .ok (.iastore, 1) := by decide +kernel
theorem dX23_addToken_30 : decode cX23_addToken 30 = .ok (.aload_n 0, 1) := by decide +kernel
theorem dX23_addToken_31 : decode cX23_addToken 31 = .ok (.getfield 37, 3) := by decide +kernel
theorem dX23_addToken_34 : decode cX23_addToken 34 = .ok (.aload_n 0, 1) := by decide +kernel
theorem dX23_addToken_35 : decode cX23_addToken 35 = .ok (.getfield 28, 3) := by decide +kernel
theorem dX23_addToken_38 : decode cX23_addToken 38 = .ok (.lload 4, 2) := by decide +kernel
theorem dX23_addToken_40 : decode cX23_addToken 40 = .ok (.lastore, 1) := by decide +kernel
theorem dX23_addToken_41 : decode cX23_addToken 41 = .ok (.aload_n 0, 1) := by decide +kernel
theorem dX23_addToken_42 : decode cX23_addToken 42 = .ok (.dup, 1) := by decide +kernel
theorem dX23_addToken_43 : decode cX23_addToken 43 = .ok (.getfield 28, 3) := by decide +kernel
theorem dX23_addToken_46 : decode cX23_addToken 46 = .ok (.iconst 1, 1) := by decide +kernel
theorem dX23_addToken_47 : decode cX23_addToken 47 = .ok (.iadd, 1) := by decide +kernel
theorem dX23_addToken_48 : decode cX23_addToken 48 = .ok (.putfield 28, 3) := by decide +kernel
theorem dX23_addToken_51 : decode cX23_addToken 51 = .ok (.return_, 1) := by decide +kernel
theorem dX23_takeNumber_0 : decode cX23_takeNumber 0 = .ok (.iload_n 1, 1) := by decide +kernel
theorem dX23_takeNumber_1 : decode cX23_takeNumber 1 = .ok (.istore_n 2, 1) := by decide +kernel
theorem dX23_takeNumber_2 : decode cX23_takeNumber 2 = .ok (.lconst 0, 1) := by decide +kernel
theorem dX23_takeNumber_3 : decode cX23_takeNumber 3 = .ok (.lstore_n 3, 1) := by decide +kernel
theorem dX23_takeNumber_4 : decode cX23_takeNumber 4 = .ok (.iconst 1, 1) := by decide +kernel
theorem dX23_takeNumber_5 : decode cX23_takeNumber 5 = .ok (.istore 5, 2) := by decide +kernel
theorem dX23_takeNumber_7 : decode cX23_takeNumber 7 = .ok (.aload_n 0, 1) := by decide +kernel
theorem dX23_takeNumber_8 : decode cX23_takeNumber 8 = .ok (.iload_n 2, 1) := by decide +kernel
theorem dX23_takeNumber_9 : decode cX23_takeNumber 9 = .ok (.invokevirtual 11, 3) := by decide +kernel
theorem dX23_takeNumber_12 : decode cX23_takeNumber 12 = .ok (.invokestatic 40, 3) := by decide +kernel
theorem dX23_takeNumber_15 : decode cX23_takeNumber 15 = .ok (.ifCond .eq 59, 3) := by decide +kernel
theorem dX23_takeNumber_18 : decode cX23_takeNumber 18 = .ok (.aload_n 0, 1) := by decide +kernel
theorem dX23_takeNumber_19 : decode cX23_takeNumber 19 = .ok (.getfield 7, 3) := by decide +kernel
theorem dX23_takeNumber_22 : decode cX23_takeNumber 22 = .ok (.iload_n 2, 1) := by decide +kernel
theorem dX23_takeNumber_23 : decode cX23_takeNumber 23 = .ok (.iaload, 1) := by decide +kernel
theorem dX23_takeNumber_24 : decode cX23_takeNumber 24 = .ok (.bipush 48, 2) := by decide +kernel
theorem dX23_takeNumber_26 : decode cX23_takeNumber 26 = .ok (.isub, 1) := by decide +kernel
theorem dX23_takeNumber_27 : decode cX23_takeNumber 27 = .ok (.istore 6, 2) := by decide +kernel
theorem dX23_takeNumber_29 : decode cX23_takeNumber 29 = .ok (.lload_n 3, 1) := by decide +kernel
theorem dX23_takeNumber_30 : decode cX23_takeNumber 30 = .ok (.ldc2_w 44, 3) := by decide +kernel
theorem dX23_takeNumber_33 : decode cX23_takeNumber 33 = .ok (.lcmp, 1) := by decide +kernel
theorem dX23_takeNumber_34 : decode cX23_takeNumber 34 = .ok (.ifCond .gt 18, 3) := by decide +kernel
theorem dX23_takeNumber_37 : decode cX23_takeNumber 37 = .ok (.lload_n 3, 1) := by decide +kernel
theorem dX23_takeNumber_38 : decode cX23_takeNumber 38 = .ok (.ldc2_w 44, 3) := by decide +kernel
theorem dX23_takeNumber_41 : decode cX23_takeNumber 41 = .ok (.lcmp, 1) := by decide +kernel
theorem dX23_takeNumber_42 : decode cX23_takeNumber 42 = .ok (.ifCond .ne 16, 3) := by decide +kernel
theorem dX23_takeNumber_45 : decode cX23_takeNumber 45 = .ok (.iload 6, 2) := by decide +kernel
theorem dX23_takeNumber_47 : decode cX23_takeNumber 47 = .ok (.bipush 7, 2) := by decide +kernel
theorem dX23_takeNumber_49 : decode cX23_takeNumber 49 = .ok (.if_icmp .le 9, 3) := by decide +kernel
theorem dX23_takeNumber_52 : decode cX23_takeNumber 52 = .ok (.iconst 0, 1) := by decide +kernel
theorem dX23_takeNumber_53 : decode cX23_takeNumber 53 = .ok (.istore 5, 2) := by decide +kernel
theorem dX23_takeNumber_55 : decode cX23_takeNumber 55 = .ok (.goto 13, 3) := by decide +kernel
theorem dX23_takeNumber_58 : decode cX23_takeNumber 58 = .ok (.ldc2_w 46, 3) := by decide +kernel
theorem dX23_takeNumber_61 : decode cX23_takeNumber 61 = .ok (.lload_n 3, 1) := by decide +kernel
theorem dX23_takeNumber_62 : decode cX23_takeNumber 62 = .ok (.lmul, 1) := by decide +kernel
theorem dX23_takeNumber_63 : decode cX23_takeNumber 63 = .ok (.iload 6, 2) := by decide +kernel
theorem dX23_takeNumber_65 : decode cX23_takeNumber 65 = .ok (.i2l, 1) := by decide +kernel
theorem dX23_takeNumber_66 : decode cX23_takeNumber 66 = .ok (.ladd, 1) := by decide +kernel
theorem dX23_takeNumber_67 : decode cX23_takeNumber 67 = .ok (.lstore_n 3, 1) := by decide +kernel
theorem dX23_takeNumber_68 : decode cX23_takeNumber 68 = .ok (.iinc 2 1, 3) := by decide +kernel
theorem dX23_takeNumber_71 : decode cX23_takeNumber 71 = .ok (.goto (-64), 3) := by decide +kernel
theorem dX23_takeNumber_74 : decode cX23_takeNumber 74 = .ok (.aload_n 0, 1) := by decide +kernel
theorem dX23_takeNumber_75 : decode cX23_takeNumber 75 = .ok (.iload_n 2, 1) := by decide +kernel
theorem dX23_takeNumber_76 : decode cX23_takeNumber 76 = .ok (.invokevirtual 11, 3) := by decide +kernel
theorem dX23_takeNumber_79 : decode cX23_takeNumber 79 = .ok (.invokestatic 48, 3) := by decide +kernel
theorem dX23_takeNumber_82 : decode cX23_takeNumber 82 = .ok (.ifCond .eq 6, 3) := by decide +kernel
theorem dX23_takeNumber_85 : decode cX23_takeNumber 85 = .ok (.iconst 0, 1) := by decide +kernel
theorem dX23_takeNumber_86 : decode cX23_takeNumber 86 = .ok (.istore 5, 2) := by decide +kernel
theorem dX23_takeNumber_88 : decode cX23_takeNumber 88 = .ok (.aload_n 0, 1) := by decide +kernel
theorem dX23_takeNumber_89 : decode cX23_takeNumber 89 = .ok (.iload 5, 2) := by decide +kernel
theorem dX23_takeNumber_91 : decode cX23_takeNumber 91 = .ok (.ifCond .eq 7, 3) := by decide +kernel
theorem dX23_takeNumber_94 : decode cX23_takeNumber 94 = .ok (.iconst 3, 1) := by decide +kernel
theorem dX23_takeNumber_95 : decode cX23_takeNumber 95 = .ok (.goto 4, 3) := by decide +kernel
theorem dX23_takeNumber_98 : decode cX23_takeNumber 98 = .ok (.iconst 1, 1) := by decide +kernel
theorem dX23_takeNumber_99 : decode cX23_takeNumber 99 = .ok (.iload_n 1, 1) := by decide +kernel
theorem dX23_takeNumber_100 : decode cX23_takeNumber 100 = .ok (.iload_n 2, 1) := by decide +kernel
theorem dX23_takeNumber_101 : decode cX23_takeNumber 101 = .ok (.lload_n 3, 1) := by decide +kernel
theorem dX23_takeNumber_102 : decode cX23_takeNumber 102 = .ok (.invokevirtual 51, 3) := by decide +kernel
theorem dX23_takeNumber_105 : decode cX23_takeNumber 105 = .ok (.iload_n 2, 1) := by decide +kernel
theorem dX23_takeNumber_106 : decode cX23_takeNumber 106 = .ok (.ireturn, 1) := by decide +kernel
theorem dX23_takeSign_0 : decode cX23_takeSign 0 = .ok (.iconst 0, 1) := by decide +kernel
theorem dX23_takeSign_1 : decode cX23_takeSign 1 = .ok (.istore_n 2, 1) := by decide +kernel
theorem dX23_takeSign_2 : decode cX23_takeSign 2 = .ok (.iload_n 2, 1) := by decide +kernel
theorem dX23_takeSign_3 : decode cX23_takeSign 3 = .ok (.getstatic 55, 3) := by decide +kernel
theorem dX23_takeSign_6 : decode cX23_takeSign 6 = .ok (.arraylength, 1) := by decide +kernel
theorem dX23_takeSign_7 : decode cX23_takeSign 7 = .ok (.if_icmp .ge 89, 3) := by decide +kernel
theorem dX23_takeSign_10 : decode cX23_takeSign 10 = .ok (.getstatic 58, 3) := by decide +kernel
theorem dX23_takeSign_13 : decode cX23_takeSign 13 = .ok (.iload_n 2, 1) := by decide +kernel
theorem dX23_takeSign_14 : decode cX23_takeSign 14 = .ok (.iaload, 1) := by decide +kernel
theorem dX23_takeSign_15 : decode cX23_takeSign 15 = .ok (.ifCond .eq 7, 3) := by decide +kernel
theorem dX23_takeSign_18 : decode cX23_takeSign 18 = .ok (.iconst 1, 1) := by decide +kernel
theorem dX23_takeSign_19 : decode cX23_takeSign 19 = .ok (.goto 4, 3) := by decide +kernel
theorem dX23_takeSign_22 : decode cX23_takeSign 22 = .ok (.iconst 0, 1) := by decide +kernel
theorem dX23_takeSign_23 : decode cX23_takeSign 23 = .ok (.istore_n 3, 1) := by decide +kernel
theorem dX23_takeSign_24 : decode cX23_takeSign 24 = .ok (.aload_n 0, 1) := by decide +kernel
theorem dX23_takeSign_25 : decode cX23_takeSign 25 = .ok (.iload_n 1, 1) := by decide +kernel
theorem dX23_takeSign_26 : decode cX23_takeSign 26 = .ok (.invokevirtual 11, 3) := by decide +kernel
theorem dX23_takeSign_29 : decode cX23_takeSign 29 = .ok (.getstatic 61, 3) := by decide +kernel
theorem dX23_takeSign_32 : decode cX23_takeSign 32 = .ok (.iload_n 2, 1) := by decide +kernel
theorem dX23_takeSign_33 : decode cX23_takeSign 33 = .ok (.iaload, 1) := by decide +kernel
theorem dX23_takeSign_34 : decode cX23_takeSign 34 = .ok (.if_icmp .ne 56, 3) := by decide +kernel
theorem dX23_takeSign_37 : decode cX23_takeSign 37 = .ok (.iload_n 3, 1) := by decide +kernel
theorem dX23_takeSign_38 : decode cX23_takeSign 38 = .ok (.ifCond .eq 18, 3) := by decide +kernel
theorem dX23_takeSign_41 : decode cX23_takeSign 41 = .ok (.aload_n 0, 1) := by decide +kernel
theorem dX23_takeSign_42 : decode cX23_takeSign 42 = .ok (.iload_n 1, 1) := by decide +kernel
theorem dX23_takeSign_43 : decode cX23_takeSign 43 = .ok (.iconst 1, 1) := by decide +kernel
theorem dX23_takeSign_44 : decode cX23_takeSign 44 = .ok (.iadd, 1) := by decide +kernel
theorem dX23_takeSign_45 : decode cX23_takeSign 45 = .ok (.invokevirtual 11, 3) := by decide +kernel
theorem dX23_takeSign_48 : decode cX23_takeSign 48 = .ok (.getstatic 58, 3) := by decide +kernel
theorem dX23_takeSign_51 : decode cX23_takeSign 51 = .ok (.iload_n 2, 1) := by decide +kernel
theorem dX23_takeSign_52 : decode cX23_takeSign 52 = .ok (.iaload, 1) := by decide +kernel
theorem dX23_takeSign_53 : decode cX23_takeSign 53 = .ok (.if_icmp .ne 37, 3) := by decide +kernel
theorem dX23_takeSign_56 : decode cX23_takeSign 56 = .ok (.aload_n 0, 1) := by decide +kernel
theorem dX23_takeSign_57 : decode cX23_takeSign 57 = .ok (.getstatic 55, 3) := by decide +kernel
theorem dX23_takeSign_60 : decode cX23_takeSign 60 = .ok (.iload_n 2, 1) := by decide +kernel
theorem dX23_takeSign_61 : decode cX23_takeSign 61 = .ok (.iaload, 1) := by decide +kernel
theorem dX23_takeSign_62 : decode cX23_takeSign 62 = .ok (.iload_n 1, 1) := by decide +kernel
theorem dX23_takeSign_63 : decode cX23_takeSign 63 = .ok (.iload_n 1, 1) := by decide +kernel
theorem dX23_takeSign_64 : decode cX23_takeSign 64 = .ok (.iload_n 3, 1) := by decide +kernel
theorem dX23_takeSign_65 : decode cX23_takeSign 65 = .ok (.ifCond .eq 7, 3) := by decide +kernel
theorem dX23_takeSign_68 : decode cX23_takeSign 68 = .ok (.iconst 2, 1) := by decide +kernel
theorem dX23_takeSign_69 : decode cX23_takeSign 69 = .ok (.goto 4, 3) := by decide +kernel
theorem dX23_takeSign_72 : decode cX23_takeSign 72 = .ok (.iconst 1, 1) := by decide +kernel
theorem dX23_takeSign_73 : decode cX23_takeSign 73 = .ok (.iadd, 1) := by decide +kernel
theorem dX23_takeSign_74 : decode cX23_takeSign 74 = .ok (.lconst 0, 1) := by decide +kernel
theorem dX23_takeSign_75 : decode cX23_takeSign 75 = .ok (.invokevirtual 51, 3) := by decide +kernel
theorem dX23_takeSign_78 : decode cX23_takeSign 78 = .ok (.iload_n 1, 1) := by decide +kernel
theorem dX23_takeSign_79 : decode cX23_takeSign 79 = .ok (.iload_n 3, 1) := by decide +kernel
theorem dX23_takeSign_80 : decode cX23_takeSign 80 = .ok (.ifCond .eq 7, 3) := by decide +kernel
theorem dX23_takeSign_83 : decode cX23_takeSign 83 = .ok (.iconst 2, 1) := by decide +kernel
theorem dX23_takeSign_84 : decode cX23_takeSign 84 = .ok (.goto 4, 3) := by decide +kernel
theorem dX23_takeSign_87 : decode cX23_takeSign 87 = .ok (.iconst 1, 1) := by decide +kernel
theorem dX23_takeSign_88 : decode cX23_takeSign 88 = .ok (.iadd, 1) := by decide +kernel
theorem dX23_takeSign_89 : decode cX23_takeSign 89 = .ok (.ireturn, 1) := by decide +kernel
theorem dX23_takeSign_90 : decode cX23_takeSign 90 = .ok (.iinc 2 1, 3) := by decide +kernel
theorem dX23_takeSign_93 : decode cX23_takeSign 93 = .ok (.goto (-91), 3) := by decide +kernel
theorem dX23_takeSign_96 : decode cX23_takeSign 96 = .ok (.aload_n 0, 1) := by decide +kernel
theorem dX23_takeSign_97 : decode cX23_takeSign 97 = .ok (.iconst 1, 1) := by decide +kernel
theorem dX23_takeSign_98 : decode cX23_takeSign 98 = .ok (.iload_n 1, 1) := by decide +kernel
theorem dX23_takeSign_99 : decode cX23_takeSign 99 = .ok (.iload_n 1, 1) := by decide +kernel
theorem dX23_takeSign_100 : decode cX23_takeSign 100 = .ok (.iconst 1, 1) := by decide +kernel
theorem dX23_takeSign_101 : decode cX23_takeSign 101 = .ok (.iadd, 1) := by decide +kernel
theorem dX23_takeSign_102 : decode cX23_takeSign 102 = .ok (.lconst 0, 1) := by decide +kernel
theorem dX23_takeSign_103 : decode cX23_takeSign 103 = .ok (.invokevirtual 51, 3) := by decide +kernel
theorem dX23_takeSign_106 : decode cX23_takeSign 106 = .ok (.iload_n 1, 1) := by decide +kernel
theorem dX23_takeSign_107 : decode cX23_takeSign 107 = .ok (.iconst 1, 1) := by decide +kernel
theorem dX23_takeSign_108 : decode cX23_takeSign 108 = .ok (.iadd, 1) := by decide +kernel
theorem dX23_takeSign_109 : decode cX23_takeSign 109 = .ok (.ireturn, 1) := by decide +kernel
theorem dX23_takeLife_0 : decode cX23_takeLife 0 = .ok (.iload_n 1, 1) := by decide +kernel
theorem dX23_takeLife_1 : decode cX23_takeLife 1 = .ok (.iconst 1, 1) := by decide +kernel
theorem dX23_takeLife_2 : decode cX23_takeLife 2 = .ok (.iadd, 1) := by decide +kernel
theorem dX23_takeLife_3 : decode cX23_takeLife 3 = .ok (.istore_n 2, 1) := by decide +kernel
theorem dX23_takeLife_4 : decode cX23_takeLife 4 = .ok (.iload_n 2, 1) := by decide +kernel
theorem dX23_takeLife_5 : decode cX23_takeLife 5 = .ok (.iload_n 1, 1) := by decide +kernel
theorem dX23_takeLife_6 : decode cX23_takeLife 6 = .ok (.iconst 1, 1) := by decide +kernel
theorem dX23_takeLife_7 : decode cX23_takeLife 7 = .ok (.iadd, 1) := by decide +kernel
theorem dX23_takeLife_8 : decode cX23_takeLife 8 = .ok (.if_icmp .le 14, 3) := by decide +kernel
theorem dX23_takeLife_11 : decode cX23_takeLife 11 = .ok (.aload_n 0, 1) := by decide +kernel
theorem dX23_takeLife_12 : decode cX23_takeLife 12 = .ok (.iload_n 2, 1) := by decide +kernel
theorem dX23_takeLife_13 : decode cX23_takeLife 13 = .ok (.invokevirtual 11, 3) := by decide +kernel
theorem dX23_takeLife_16 : decode cX23_takeLife 16 = .ok (.invokestatic 40, 3) := by decide +kernel
theorem dX23_takeLife_19 : decode cX23_takeLife 19 = .ok (.ifCond .ne 14, 3) := by decide +kernel
theorem dX23_takeLife_22 : decode cX23_takeLife 22 = .ok (.aload_n 0, 1) := by decide +kernel
theorem dX23_takeLife_23 : decode cX23_takeLife 23 = .ok (.iload_n 2, 1) := by decide +kernel
theorem dX23_takeLife_24 : decode cX23_takeLife 24 = .ok (.invokevirtual 11, 3) := by decide +kernel
theorem dX23_takeLife_27 : decode cX23_takeLife 27 = .ok (.invokestatic 48, 3) := by decide +kernel
theorem dX23_takeLife_30 : decode cX23_takeLife 30 = .ok (.ifCond .eq 9, 3) := by decide +kernel
theorem dX23_takeLife_33 : decode cX23_takeLife 33 = .ok (.iinc 2 1, 3) := by decide +kernel
theorem dX23_takeLife_36 : decode cX23_takeLife 36 = .ok (.goto (-32), 3) := by decide +kernel
theorem dX23_takeLife_39 : decode cX23_takeLife 39 = .ok (.iload_n 2, 1) := by decide +kernel
theorem dX23_takeLife_40 : decode cX23_takeLife 40 = .ok (.iload_n 1, 1) := by decide +kernel
theorem dX23_takeLife_41 : decode cX23_takeLife 41 = .ok (.iconst 1, 1) := by decide +kernel
theorem dX23_takeLife_42 : decode cX23_takeLife 42 = .ok (.iadd, 1) := by decide +kernel
theorem dX23_takeLife_43 : decode cX23_takeLife 43 = .ok (.if_icmp .le 27, 3) := by decide +kernel
theorem dX23_takeLife_46 : decode cX23_takeLife 46 = .ok (.iload_n 2, 1) := by decide +kernel
theorem dX23_takeLife_47 : decode cX23_takeLife 47 = .ok (.iload_n 1, 1) := by decide +kernel
theorem dX23_takeLife_48 : decode cX23_takeLife 48 = .ok (.isub, 1) := by decide +kernel
theorem dX23_takeLife_49 : decode cX23_takeLife 49 = .ok (.bipush 21, 2) := by decide +kernel
theorem dX23_takeLife_51 : decode cX23_takeLife 51 = .ok (.if_icmp .gt 19, 3) := by decide +kernel
theorem dX23_takeLife_54 : decode cX23_takeLife 54 = .ok (.aload_n 0, 1) := by decide +kernel
theorem dX23_takeLife_55 : decode cX23_takeLife 55 = .ok (.iload_n 1, 1) := by decide +kernel
theorem dX23_takeLife_56 : decode cX23_takeLife 56 = .ok (.iconst 1, 1) := by decide +kernel
theorem dX23_takeLife_57 : decode cX23_takeLife 57 = .ok (.iadd, 1) := by decide +kernel
theorem dX23_takeLife_58 : decode cX23_takeLife 58 = .ok (.iload_n 2, 1) := by decide +kernel
theorem dX23_takeLife_59 : decode cX23_takeLife 59 = .ok (.invokevirtual 64, 3) := by decide +kernel
theorem dX23_takeLife_62 : decode cX23_takeLife 62 = .ok (.iconst 2, 1) := by decide +kernel
theorem dX23_takeLife_63 : decode cX23_takeLife 63 = .ok (.if_icmp .ne 7, 3) := by decide +kernel
theorem dX23_takeLife_66 : decode cX23_takeLife 66 = .ok (.iconst 1, 1) := by decide +kernel
theorem dX23_takeLife_67 : decode cX23_takeLife 67 = .ok (.goto 4, 3) := by decide +kernel
theorem dX23_takeLife_70 : decode cX23_takeLife 70 = .ok (.iconst 0, 1) := by decide +kernel
theorem dX23_takeLife_71 : decode cX23_takeLife 71 = .ok (.istore_n 3, 1) := by decide +kernel
theorem dX23_takeLife_72 : decode cX23_takeLife 72 = .ok (.aload_n 0, 1) := by decide +kernel
theorem dX23_takeLife_73 : decode cX23_takeLife 73 = .ok (.iload_n 3, 1) := by decide +kernel
theorem dX23_takeLife_74 : decode cX23_takeLife 74 = .ok (.ifCond .eq 7, 3) := by decide +kernel
theorem dX23_takeLife_77 : decode cX23_takeLife 77 = .ok (.iconst 4, 1) := by decide +kernel
theorem dX23_takeLife_78 : decode cX23_takeLife 78 = .ok (.goto 4, 3) := by decide +kernel
theorem dX23_takeLife_81 : decode cX23_takeLife 81 = .ok (.iconst 1, 1) := by decide +kernel
theorem dX23_takeLife_82 : decode cX23_takeLife 82 = .ok (.iload_n 1, 1) := by decide +kernel
theorem dX23_takeLife_83 : decode cX23_takeLife 83 = .ok (.iload_n 2, 1) := by decide +kernel
theorem dX23_takeLife_84 : decode cX23_takeLife 84 = .ok (.lconst 0, 1) := by decide +kernel
theorem dX23_takeLife_85 : decode cX23_takeLife 85 = .ok (.invokevirtual 51, 3) := by decide +kernel
theorem dX23_takeLife_88 : decode cX23_takeLife 88 = .ok (.iload_n 2, 1) := by decide +kernel
theorem dX23_takeLife_89 : decode cX23_takeLife 89 = .ok (.ireturn, 1) := by decide +kernel
theorem dX23_scan_0 : decode cX23_scan 0 = .ok (.aload_n 0, 1) := by decide +kernel
theorem dX23_scan_1 : decode cX23_scan 1 = .ok (.iconst 0, 1) := by decide +kernel
theorem dX23_scan_2 : decode cX23_scan 2 = .ok (.putfield 28, 3) := by decide +kernel
theorem dX23_scan_5 : decode cX23_scan 5 = .ok (.aload_n 0, 1) := by decide +kernel
theorem dX23_scan_6 : decode cX23_scan 6 = .ok (.iconst 0, 1) := by decide +kernel
theorem dX23_scan_7 : decode cX23_scan 7 = .ok (.invokevirtual 68, 3) := by decide +kernel
theorem dX23_scan_10 : decode cX23_scan 10 = .ok (.istore_n 1, 1) := by decide +kernel
theorem dX23_scan_11 : decode cX23_scan 11 = .ok (.iload_n 1, 1) := by decide +kernel
theorem dX23_scan_12 : decode cX23_scan 12 = .ok (.aload_n 0, 1) := by decide +kernel
theorem dX23_scan_13 : decode cX23_scan 13 = .ok (.getfield 1, 3) := by decide +kernel
theorem dX23_scan_16 : decode cX23_scan 16 = .ok (.if_icmp .ge 141, 3) := by decide +kernel
theorem dX23_scan_19 : decode cX23_scan 19 = .ok (.aload_n 0, 1) := by decide +kernel
theorem dX23_scan_20 : decode cX23_scan 20 = .ok (.getfield 28, 3) := by decide +kernel
theorem dX23_scan_23 : decode cX23_scan 23 = .ok (.ifCond .eq 18, 3) := by decide +kernel
theorem dX23_scan_26 : decode cX23_scan 26 = .ok (.aload_n 0, 1) := by decide +kernel
theorem dX23_scan_27 : decode cX23_scan 27 = .ok (.getfield 25, 3) := by decide +kernel
theorem dX23_scan_30 : decode cX23_scan 30 = .ok (.aload_n 0, 1) := by decide +kernel
theorem dX23_scan_31 : decode cX23_scan 31 = .ok (.getfield 28, 3) := by decide +kernel
theorem dX23_scan_34 : decode cX23_scan 34 = .ok (.iconst 1, 1) := by decide +kernel
theorem dX23_scan_35 : decode cX23_scan 35 = .ok (.isub, 1) := by decide +kernel
theorem dX23_scan_36 : decode cX23_scan 36 = .ok (.iaload, 1) := by decide +kernel
theorem dX23_scan_37 : decode cX23_scan 37 = .ok (.iconst 1, 1) := by decide +kernel
theorem dX23_scan_38 : decode cX23_scan 38 = .ok (.if_icmp .eq 119, 3) := by decide +kernel
theorem dX23_scan_41 : decode cX23_scan 41 = .ok (.aload_n 0, 1) := by decide +kernel
theorem dX23_scan_42 : decode cX23_scan 42 = .ok (.iload_n 1, 1) := by decide +kernel
theorem dX23_scan_43 : decode cX23_scan 43 = .ok (.invokevirtual 11, 3) := by decide +kernel
theorem dX23_scan_46 : decode cX23_scan 46 = .ok (.istore_n 2, 1) := by decide +kernel
theorem dX23_scan_47 : decode cX23_scan 47 = .ok (.iload_n 2, 1) := by decide +kernel
theorem dX23_scan_48 : decode cX23_scan 48 = .ok (.bipush 39, 2) := by decide +kernel
theorem dX23_scan_50 : decode cX23_scan 50 = .ok (.if_icmp .ne 12, 3) := by decide +kernel
theorem dX23_scan_53 : decode cX23_scan 53 = .ok (.aload_n 0, 1) := by decide +kernel
theorem dX23_scan_54 : decode cX23_scan 54 = .ok (.iload_n 1, 1) := by decide +kernel
theorem dX23_scan_55 : decode cX23_scan 55 = .ok (.invokevirtual 71, 3) := by decide +kernel
theorem dX23_scan_58 : decode cX23_scan 58 = .ok (.istore_n 1, 1) := by decide +kernel
theorem dX23_scan_59 : decode cX23_scan 59 = .ok (.goto 89, 3) := by decide +kernel
theorem dX23_scan_62 : decode cX23_scan 62 = .ok (.iload_n 2, 1) := by decide +kernel
theorem dX23_scan_63 : decode cX23_scan 63 = .ok (.invokestatic 48, 3) := by decide +kernel
theorem dX23_scan_66 : decode cX23_scan 66 = .ok (.ifCond .eq 61, 3) := by decide +kernel
theorem dX23_scan_69 : decode cX23_scan 69 = .ok (.iload_n 1, 1) := by decide +kernel
theorem dX23_scan_70 : decode cX23_scan 70 = .ok (.istore_n 3, 1) := by decide +kernel
theorem dX23_scan_71 : decode cX23_scan 71 = .ok (.aload_n 0, 1) := by decide +kernel
theorem dX23_scan_72 : decode cX23_scan 72 = .ok (.iload_n 1, 1) := by decide +kernel
theorem dX23_scan_73 : decode cX23_scan 73 = .ok (.invokevirtual 11, 3) := by decide +kernel
theorem dX23_scan_76 : decode cX23_scan 76 = .ok (.invokestatic 48, 3) := by decide +kernel
theorem dX23_scan_79 : decode cX23_scan 79 = .ok (.ifCond .ne 14, 3) := by decide +kernel
theorem dX23_scan_82 : decode cX23_scan 82 = .ok (.aload_n 0, 1) := by decide +kernel
theorem dX23_scan_83 : decode cX23_scan 83 = .ok (.iload_n 1, 1) := by decide +kernel
theorem dX23_scan_84 : decode cX23_scan 84 = .ok (.invokevirtual 11, 3) := by decide +kernel
theorem dX23_scan_87 : decode cX23_scan 87 = .ok (.invokestatic 40, 3) := by decide +kernel
theorem dX23_scan_90 : decode cX23_scan 90 = .ok (.ifCond .eq 9, 3) := by decide +kernel
theorem dX23_scan_93 : decode cX23_scan 93 = .ok (.iinc 1 1, 3) := by decide +kernel
theorem dX23_scan_96 : decode cX23_scan 96 = .ok (.goto (-25), 3) := by decide +kernel
theorem dX23_scan_99 : decode cX23_scan 99 = .ok (.aload_n 0, 1) := by decide +kernel
theorem dX23_scan_100 : decode cX23_scan 100 = .ok (.iload_n 1, 1) := by decide +kernel
theorem dX23_scan_101 : decode cX23_scan 101 = .ok (.iload_n 3, 1) := by decide +kernel
theorem dX23_scan_102 : decode cX23_scan 102 = .ok (.isub, 1) := by decide +kernel
theorem dX23_scan_103 : decode cX23_scan 103 = .ok (.bipush 20, 2) := by decide +kernel
theorem dX23_scan_105 : decode cX23_scan 105 = .ok (.if_icmp .le 7, 3) := by decide +kernel
theorem dX23_scan_108 : decode cX23_scan 108 = .ok (.iconst 1, 1) := by decide +kernel
theorem dX23_scan_109 : decode cX23_scan 109 = .ok (.goto 9, 3) := by decide +kernel
theorem dX23_scan_112 : decode cX23_scan 112 = .ok (.aload_n 0, 1) := by decide +kernel
theorem dX23_scan_113 : decode cX23_scan 113 = .ok (.iload_n 3, 1) := by decide +kernel
theorem dX23_scan_114 : decode cX23_scan 114 = .ok (.iload_n 1, 1) := by decide +kernel
theorem dX23_scan_115 : decode cX23_scan 115 = .ok (.invokevirtual 64, 3) := by decide +kernel
theorem dX23_scan_118 : decode cX23_scan 118 = .ok (.iload_n 3, 1) := by decide +kernel
theorem dX23_scan_119 : decode cX23_scan 119 = .ok (.iload_n 1, 1) := by decide +kernel
theorem dX23_scan_120 : decode cX23_scan 120 = .ok (.lconst 0, 1) := by decide +kernel
theorem dX23_scan_121 : decode cX23_scan 121 = .ok (.invokevirtual 51, 3) := by decide +kernel
theorem dX23_scan_124 : decode cX23_scan 124 = .ok (.goto 24, 3) := by decide +kernel
theorem dX23_scan_127 : decode cX23_scan 127 = .ok (.iload_n 2, 1) := by decide +kernel
theorem dX23_scan_128 : decode cX23_scan 128 = .ok (.invokestatic 40, 3) := by decide +kernel
theorem dX23_scan_131 : decode cX23_scan 131 = .ok (.ifCond .eq 11, 3) := by decide +kernel
theorem dX23_scan_134 : decode cX23_scan 134 = .ok (.aload_n 0, 1) := by decide +kernel
theorem dX23_scan_135 : decode cX23_scan 135 = .ok (.iload_n 1, 1) := by decide +kernel
theorem dX23_scan_136 : decode cX23_scan 136 = .ok (.invokevirtual 74, 3) := by decide +kernel
theorem dX23_scan_139 : decode cX23_scan 139 = .ok (.goto 8, 3) := by decide +kernel
theorem dX23_scan_142 : decode cX23_scan 142 = .ok (.aload_n 0, 1) := by decide +kernel
theorem dX23_scan_143 : decode cX23_scan 143 = .ok (.iload_n 1, 1) := by decide +kernel
theorem dX23_scan_144 : decode cX23_scan 144 = .ok (.invokevirtual 77, 3) := by decide +kernel
theorem dX23_scan_147 : decode cX23_scan 147 = .ok (.istore_n 1, 1) := by decide +kernel
theorem dX23_scan_148 : decode cX23_scan 148 = .ok (.aload_n 0, 1) := by decide +kernel
theorem dX23_scan_149 : decode cX23_scan 149 = .ok (.iload_n 1, 1) := by decide +kernel
theorem dX23_scan_150 : decode cX23_scan 150 = .ok (.invokevirtual 68, 3) := by decide +kernel
theorem dX23_scan_153 : decode cX23_scan 153 = .ok (.istore_n 1, 1) := by decide +kernel
theorem dX23_scan_154 : decode cX23_scan 154 = .ok (.goto (-143), 3) := by decide +kernel
theorem dX23_scan_157 : decode cX23_scan 157 = .ok (.aload_n 0, 1) := by decide +kernel
theorem dX23_scan_158 : decode cX23_scan 158 = .ok (.iconst 0, 1) := by decide +kernel
theorem dX23_scan_159 : decode cX23_scan 159 = .ok (.aload_n 0, 1) := by decide +kernel
theorem dX23_scan_160 : decode cX23_scan 160 = .ok (.getfield 1, 3) := by decide +kernel
theorem dX23_scan_163 : decode cX23_scan 163 = .ok (.aload_n 0, 1) := by decide +kernel
theorem dX23_scan_164 : decode cX23_scan 164 = .ok (.getfield 1, 3) := by decide +kernel
theorem dX23_scan_167 : decode cX23_scan 167 = .ok (.lconst 0, 1) := by decide +kernel
theorem dX23_scan_168 : decode cX23_scan 168 = .ok (.invokevirtual 51, 3) := by decide +kernel
theorem dX23_scan_171 : decode cX23_scan 171 = .ok (.return_, 1) := by decide +kernel
theorem dX23_ok_0 : decode cX23_ok 0 = .ok (.aload_n 0, 1) := by decide +kernel
theorem dX23_ok_1 : decode cX23_ok 1 = .ok (.getfield 80, 3) := by decide +kernel
theorem dX23_ok_4 : decode cX23_ok 4 = .ok (.ifCond .ne 7, 3) := by decide +kernel
theorem dX23_ok_7 : decode cX23_ok 7 = .ok (.iconst 1, 1) := by decide +kernel
theorem dX23_ok_8 : decode cX23_ok 8 = .ok (.goto 4, 3) := by decide +kernel
theorem dX23_ok_11 : decode cX23_ok 11 = .ok (.iconst 0, 1) := by decide +kernel
theorem dX23_ok_12 : decode cX23_ok 12 = .ok (.ireturn, 1) := by decide +kernel
theorem dX23_fail_0 : decode cX23_fail 0 = .ok (.aload_n 0, 1) := by decide +kernel
theorem dX23_fail_1 : decode cX23_fail 1 = .ok (.getfield 80, 3) := by decide +kernel
theorem dX23_fail_4 : decode cX23_fail 4 = .ok (.ifCond .eq 4, 3) := by decide +kernel
theorem dX23_fail_7 : decode cX23_fail 7 = .ok (.return_, 1) := by decide +kernel
theorem dX23_fail_8 : decode cX23_fail 8 = .ok (.aload_n 0, 1) := by decide +kernel
theorem dX23_fail_9 : decode cX23_fail 9 = .ok (.iload_n 1, 1) := by decide +kernel
theorem dX23_fail_10 : decode cX23_fail 10 = .ok (.putfield 80, 3) := by decide +kernel
theorem dX23_fail_13 : decode cX23_fail 13 = .ok (.aload_n 0, 1) := by decide +kernel
theorem dX23_fail_14 : decode cX23_fail 14 = .ok (.aload_n 0, 1) := by decide +kernel
theorem dX23_fail_15 : decode cX23_fail 15 = .ok (.getfield 31, 3) := by decide +kernel
theorem dX23_fail_18 : decode cX23_fail 18 = .ok (.iload_n 2, 1) := by decide +kernel
theorem dX23_fail_19 : decode cX23_fail 19 = .ok (.iaload, 1) := by decide +kernel
theorem dX23_fail_20 : decode cX23_fail 20 = .ok (.putfield 83, 3) := by decide +kernel
theorem dX23_fail_23 : decode cX23_fail 23 = .ok (.return_, 1) := by decide +kernel
theorem dX23_sameName_0 : decode cX23_sameName 0 = .ok (.aload_n 0, 1) := by decide +kernel
theorem dX23_sameName_1 : decode cX23_sameName 1 = .ok (.getfield 34, 3) := by decide +kernel
theorem dX23_sameName_4 : decode cX23_sameName 4 = .ok (.iload_n 1, 1) := by decide +kernel
theorem dX23_sameName_5 : decode cX23_sameName 5 = .ok (.iaload, 1) := by decide +kernel
theorem dX23_sameName_6 : decode cX23_sameName 6 = .ok (.aload_n 0, 1) := by decide +kernel
theorem dX23_sameName_7 : decode cX23_sameName 7 = .ok (.getfield 31, 3) := by decide +kernel
theorem dX23_sameName_10 : decode cX23_sameName 10 = .ok (.iload_n 1, 1) := by decide +kernel
theorem dX23_sameName_11 : decode cX23_sameName 11 = .ok (.iaload, 1) := by decide +kernel
theorem dX23_sameName_12 : decode cX23_sameName 12 = .ok (.isub, 1) := by decide +kernel
theorem dX23_sameName_13 : decode cX23_sameName 13 = .ok (.istore_n 3, 1) := by decide +kernel
theorem dX23_sameName_14 : decode cX23_sameName 14 = .ok (.aload_n 0, 1) := by decide +kernel
theorem dX23_sameName_15 : decode cX23_sameName 15 = .ok (.getfield 34, 3) := by decide +kernel
theorem dX23_sameName_18 : decode cX23_sameName 18 = .ok (.iload_n 2, 1) := by decide +kernel
theorem dX23_sameName_19 : decode cX23_sameName 19 = .ok (.iaload, 1) := by decide +kernel
theorem dX23_sameName_20 : decode cX23_sameName 20 = .ok (.aload_n 0, 1) := by decide +kernel
theorem dX23_sameName_21 : decode cX23_sameName 21 = .ok (.getfield 31, 3) := by decide +kernel
theorem dX23_sameName_24 : decode cX23_sameName 24 = .ok (.iload_n 2, 1) := by decide +kernel
theorem dX23_sameName_25 : decode cX23_sameName 25 = .ok (.iaload, 1) := by decide +kernel
theorem dX23_sameName_26 : decode cX23_sameName 26 = .ok (.isub, 1) := by decide +kernel
theorem dX23_sameName_27 : decode cX23_sameName 27 = .ok (.iload_n 3, 1) := by decide +kernel
theorem dX23_sameName_28 : decode cX23_sameName 28 = .ok (.if_icmp .eq 5, 3) := by decide +kernel
theorem dX23_sameName_31 : decode cX23_sameName 31 = .ok (.iconst 0, 1) := by decide +kernel
theorem dX23_sameName_32 : decode cX23_sameName 32 = .ok (.ireturn, 1) := by decide +kernel
theorem dX23_sameName_33 : decode cX23_sameName 33 = .ok (.iconst 0, 1) := by decide +kernel
theorem dX23_sameName_34 : decode cX23_sameName 34 = .ok (.istore 4, 2) := by decide +kernel
theorem dX23_sameName_36 : decode cX23_sameName 36 = .ok (.iload 4, 2) := by decide +kernel
theorem dX23_sameName_38 : decode cX23_sameName 38 = .ok (.iload_n 3, 1) := by decide +kernel
theorem dX23_sameName_39 : decode cX23_sameName 39 = .ok (.if_icmp .ge 42, 3) := by decide +kernel
theorem dX23_sameName_42 : decode cX23_sameName 42 = .ok (.aload_n 0, 1) := by decide +kernel
theorem dX23_sameName_43 : decode cX23_sameName 43 = .ok (.getfield 7, 3) := by decide +kernel
theorem dX23_sameName_46 : decode cX23_sameName 46 = .ok (.aload_n 0, 1) := by decide +kernel
theorem dX23_sameName_47 : decode cX23_sameName 47 = .ok (.getfield 31, 3) := by decide +kernel
theorem dX23_sameName_50 : decode cX23_sameName 50 = .ok (.iload_n 1, 1) := by decide +kernel
theorem dX23_sameName_51 : decode cX23_sameName 51 = .ok (.iaload, 1) := by decide +kernel
theorem dX23_sameName_52 : decode cX23_sameName 52 = .ok (.iload 4, 2) := by decide +kernel
theorem dX23_sameName_54 : decode cX23_sameName 54 = .ok (.iadd, 1) := by decide +kernel
theorem dX23_sameName_55 : decode cX23_sameName 55 = .ok (.iaload, 1) := by decide +kernel
theorem dX23_sameName_56 : decode cX23_sameName 56 = .ok (.aload_n 0, 1) := by decide +kernel
theorem dX23_sameName_57 : decode cX23_sameName 57 = .ok (.getfield 7, 3) := by decide +kernel
theorem dX23_sameName_60 : decode cX23_sameName 60 = .ok (.aload_n 0, 1) := by decide +kernel
theorem dX23_sameName_61 : decode cX23_sameName 61 = .ok (.getfield 31, 3) := by decide +kernel
theorem dX23_sameName_64 : decode cX23_sameName 64 = .ok (.iload_n 2, 1) := by decide +kernel
theorem dX23_sameName_65 : decode cX23_sameName 65 = .ok (.iaload, 1) := by decide +kernel
theorem dX23_sameName_66 : decode cX23_sameName 66 = .ok (.iload 4, 2) := by decide +kernel
theorem dX23_sameName_68 : decode cX23_sameName 68 = .ok (.iadd, 1) := by decide +kernel
theorem dX23_sameName_69 : decode cX23_sameName 69 = .ok (.iaload, 1) := by decide +kernel
theorem dX23_sameName_70 : decode cX23_sameName 70 = .ok (.if_icmp .eq 5, 3) := by decide +kernel
theorem dX23_sameName_73 : decode cX23_sameName 73 = .ok (.iconst 0, 1) := by decide +kernel
theorem dX23_sameName_74 : decode cX23_sameName 74 = .ok (.ireturn, 1) := by decide +kernel
theorem dX23_sameName_75 : decode cX23_sameName 75 = .ok (.iinc 4 1, 3) := by decide +kernel
theorem dX23_sameName_78 : decode cX23_sameName 78 = .ok (.goto (-42), 3) := by decide +kernel
theorem dX23_sameName_81 : decode cX23_sameName 81 = .ok (.iconst 1, 1) := by decide +kernel
theorem dX23_sameName_82 : decode cX23_sameName 82 = .ok (.ireturn, 1) := by decide +kernel
theorem dX23_isMain_0 : decode cX23_isMain 0 = .ok (.aload_n 0, 1) := by decide +kernel
theorem dX23_isMain_1 : decode cX23_isMain 1 = .ok (.getfield 31, 3) := by decide +kernel
theorem dX23_isMain_4 : decode cX23_isMain 4 = .ok (.iload_n 1, 1) := by decide +kernel
theorem dX23_isMain_5 : decode cX23_isMain 5 = .ok (.iaload, 1) := by decide +kernel
theorem dX23_isMain_6 : decode cX23_isMain 6 = .ok (.istore_n 2, 1) := by decide +kernel
theorem dX23_isMain_7 : decode cX23_isMain 7 = .ok (.aload_n 0, 1) := by decide +kernel
theorem dX23_isMain_8 : decode cX23_isMain 8 = .ok (.getfield 34, 3) := by decide +kernel
theorem dX23_isMain_11 : decode cX23_isMain 11 = .ok (.iload_n 1, 1) := by decide +kernel
theorem dX23_isMain_12 : decode cX23_isMain 12 = .ok (.iaload, 1) := by decide +kernel
theorem dX23_isMain_13 : decode cX23_isMain 13 = .ok (.iload_n 2, 1) := by decide +kernel
theorem dX23_isMain_14 : decode cX23_isMain 14 = .ok (.isub, 1) := by decide +kernel
theorem dX23_isMain_15 : decode cX23_isMain 15 = .ok (.iconst 4, 1) := by decide +kernel
theorem dX23_isMain_16 : decode cX23_isMain 16 = .ok (.if_icmp .ne 57, 3) := by decide +kernel
theorem dX23_isMain_19 : decode cX23_isMain 19 = .ok (.aload_n 0, 1) := by decide +kernel
theorem dX23_isMain_20 : decode cX23_isMain 20 = .ok (.getfield 7, 3) := by decide +kernel
theorem dX23_isMain_23 : decode cX23_isMain 23 = .ok (.iload_n 2, 1) := by decide +kernel
theorem dX23_isMain_24 : decode cX23_isMain 24 = .ok (.iaload, 1) := by decide +kernel
theorem dX23_isMain_25 : decode cX23_isMain 25 = .ok (.bipush 109, 2) := by decide +kernel
theorem dX23_isMain_27 : decode cX23_isMain 27 = .ok (.if_icmp .ne 46, 3) := by decide +kernel
theorem dX23_isMain_30 : decode cX23_isMain 30 = .ok (.aload_n 0, 1) := by decide +kernel
theorem dX23_isMain_31 : decode cX23_isMain 31 = .ok (.getfield 7, 3) := by decide +kernel
theorem dX23_isMain_34 : decode cX23_isMain 34 = .ok (.iload_n 2, 1) := by decide +kernel
theorem dX23_isMain_35 : decode cX23_isMain 35 = .ok (.iconst 1, 1) := by decide +kernel
theorem dX23_isMain_36 : decode cX23_isMain 36 = .ok (.iadd, 1) := by decide +kernel
theorem dX23_isMain_37 : decode cX23_isMain 37 = .ok (.iaload, 1) := by decide +kernel
theorem dX23_isMain_38 : decode cX23_isMain 38 = .ok (.bipush 97, 2) := by decide +kernel
theorem dX23_isMain_40 : decode cX23_isMain 40 = .ok (.if_icmp .ne 33, 3) := by decide +kernel
theorem dX23_isMain_43 : decode cX23_isMain 43 = .ok (.aload_n 0, 1) := by decide +kernel
theorem dX23_isMain_44 : decode cX23_isMain 44 = .ok (.getfield 7, 3) := by decide +kernel
theorem dX23_isMain_47 : decode cX23_isMain 47 = .ok (.iload_n 2, 1) := by decide +kernel
theorem dX23_isMain_48 : decode cX23_isMain 48 = .ok (.iconst 2, 1) := by decide +kernel
theorem dX23_isMain_49 : decode cX23_isMain 49 = .ok (.iadd, 1) := by decide +kernel
theorem dX23_isMain_50 : decode cX23_isMain 50 = .ok (.iaload, 1) := by decide +kernel
theorem dX23_isMain_51 : decode cX23_isMain 51 = .ok (.bipush 105, 2) := by decide +kernel
theorem dX23_isMain_53 : decode cX23_isMain 53 = .ok (.if_icmp .ne 20, 3) := by decide +kernel
theorem dX23_isMain_56 : decode cX23_isMain 56 = .ok (.aload_n 0, 1) := by decide +kernel
theorem dX23_isMain_57 : decode cX23_isMain 57 = .ok (.getfield 7, 3) := by decide +kernel
theorem dX23_isMain_60 : decode cX23_isMain 60 = .ok (.iload_n 2, 1) := by decide +kernel
theorem dX23_isMain_61 : decode cX23_isMain 61 = .ok (.iconst 3, 1) := by decide +kernel
theorem dX23_isMain_62 : decode cX23_isMain 62 = .ok (.iadd, 1) := by decide +kernel
theorem dX23_isMain_63 : decode cX23_isMain 63 = .ok (.iaload, 1) := by decide +kernel
theorem dX23_isMain_64 : decode cX23_isMain 64 = .ok (.bipush 110, 2) := by decide +kernel
theorem dX23_isMain_66 : decode cX23_isMain 66 = .ok (.if_icmp .ne 7, 3) := by decide +kernel
theorem dX23_isMain_69 : decode cX23_isMain 69 = .ok (.iconst 1, 1) := by decide +kernel
theorem dX23_isMain_70 : decode cX23_isMain 70 = .ok (.goto 4, 3) := by decide +kernel
theorem dX23_isMain_73 : decode cX23_isMain 73 = .ok (.iconst 0, 1) := by decide +kernel
theorem dX23_isMain_74 : decode cX23_isMain 74 = .ok (.ireturn, 1) := by decide +kernel
