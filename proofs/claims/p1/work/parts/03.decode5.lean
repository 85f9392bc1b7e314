theorem dX23_at_13 : decode cX23_at 13 = .ok (.iaload, 1) := by decide +kernel
theorem dX23_at_14 : decode cX23_at 14 = .ok (.goto 4, 3) := by decide +kernel
theorem dX23_at_17 : decode cX23_at 17 = .ok (.iconst (-1), 1) := by decide +kernel
theorem dX23_at_18 : decode cX23_at 18 = .ok (.ireturn, 1) := by decide +kernel
theorem dX23_addToken_0 : decode cX23_addToken 0 = .ok (.aload_n 0, 1) := by decide +kernel
theorem dX23_addToken_1 : decode cX23_addToken 1 = .ok (.getfield 25, 3) := by decide +kernel
theorem dX23_addToken_4 : decode cX23_addToken 4 = .ok (.aload_n 0, 1) := by decide +kernel
theorem dX23_addToken_5 : decode cX23_addToken 5 = .ok (.getfield 28, 3) := by decide +kernel
theorem dX23_addToken_8 : decode cX23_addToken 8 = .ok (.iload_n 1, 1) := by decide +kernel
theorem dX23_addToken_9 : decode cX23_addToken 9 = .ok (.iastore, 1) := by decide +kernel
theorem dX23_addToken_10 : decode cX23_addToken 10 = .ok (.aload_n 0, 1) := by decide +kernel
theorem dX23_addToken_11 : decode cX23_addToken 11 = .ok (.getfield 31, 3) := by decide +kernel
theorem dX23_addToken_14 : decode cX23_addToken 14 = .ok (.aload_n 0, 1) := by decide +kernel
theorem dX23_addToken_15 : decode cX23_addToken 15 = .ok (.getfield 28, 3) := by decide +kernel
theorem dX23_addToken_18 : decode cX23_addToken 18 = .ok (.iload_n 2, 1) := by decide +kernel
theorem dX23_addToken_19 : decode cX23_addToken 19 = .ok (.iastore, 1) := by decide +kernel
theorem dX23_addToken_20 : decode cX23_addToken 20 = .ok (.aload_n 0, 1) := by decide +kernel
theorem dX23_addToken_21 : decode cX23_addToken 21 = .ok (.getfield 34, 3) := by decide +kernel
theorem dX23_addToken_24 : decode cX23_addToken 24 = .ok (.aload_n 0, 1) := by decide +kernel
theorem dX23_addToken_25 : decode cX23_addToken 25 = .ok (.getfield 28, 3) := by decide +kernel
theorem dX23_addToken_28 : decode cX23_addToken 28 = .ok (.iload_n 3, 1) := by decide +kernel
theorem dX23_addToken_29 : decode cX23_addToken 29 = .ok (.iastore, 1) := by decide +kernel
theorem dX23_addToken_30 : decode cX23_addToken 30 = .ok (.aload_n 0, 1) := by decide +kernel
theorem dX23_addToken_31 : decode cX23_addToken 31 = .ok (.getfield 37, 3) := by decide +kernel
theorem dX23_addToken_34 : decode cX23_addToken 34 = .ok (.aload_n 0, 1) := by decide +kernel
theorem dX23_addToken_35 : decode cX23_addToken 35 = .ok (.getfield 28, 3) := by decide +kernel
theorem dX23_addToken_38 : decode cX23_addToken 38 = .ok (.lload 4, 2) := by decide +kernel
theorem dX23_addToken_40 : decode cX23_addToken 40 = .ok (.lastore, 1) := by decide +kernel
theorem dX23_addToken_41 : decode cX23_addToken 41 = .ok (.aload_n 0, 1) := by decide +kernel
theorem dX23_addToken_42 : decode cX23_addToken 42 = .ok (.dup, 1) := by decide +kernel
theorem dX23_addToken_43 : decode cX23_addToken 43 = .ok (.getfield 28, 3) := by decide +kernel
theorem dX23_addToken_46 : decode cX23_addToken 46 = .ok (.iconst 1, 1) := by decide +kernel
theorem dX23_addToken_47 : decode cX23_addToken 47 = .ok (.iadd, 1) := by decide +kernel
theorem dX23_addToken_48 : decode cX23_addToken 48 = .ok (.putfield 28, 3) := by decide +kernel
theorem dX23_addToken_51 : decode cX23_addToken 51 = .ok (.return_, 1) := by decide +kernel
theorem dX23_program_0 : decode cX23_program 0 = .ok (.aload_n 0, 1) := by decide +kernel
theorem dX23_program_1 : decode cX23_program 1 = .ok (.iconst 0, 1) := by decide +kernel
theorem dX23_program_2 : decode cX23_program 2 = .ok (.putfield 221, 3) := by decide +kernel
theorem dX23_program_5 : decode cX23_program 5 = .ok (.aload_n 0, 1) := by decide +kernel
theorem dX23_program_6 : decode cX23_program 6 = .ok (.iconst 0, 1) := by decide +kernel
theorem dX23_program_7 : decode cX23_program 7 = .ok (.putfield 171, 3) := by decide +kernel
theorem dX23_program_10 : decode cX23_program 10 = .ok (.aload_n 0, 1) := by decide +kernel
theorem dX23_program_11 : decode cX23_program 11 = .ok (.iconst 0, 1) := by decide +kernel
theorem dX23_program_12 : decode cX23_program 12 = .ok (.putfield 189, 3) := by decide +kernel
theorem dX23_program_15 : decode cX23_program 15 = .ok (.aload_n 0, 1) := by decide +kernel
theorem dX23_program_16 : decode cX23_program 16 = .ok (.iconst 0, 1) := by decide +kernel
theorem dX23_program_17 : decode cX23_program 17 = .ok (.putfield 86, 3) := by decide +kernel
theorem dX23_program_20 : decode cX23_program 20 = .ok (.aload_n 0, 1) := by decide +kernel
theorem dX23_program_21 : decode cX23_program 21 = .ok (.iconst 0, 1) := by decide +kernel
theorem dX23_program_22 : decode cX23_program 22 = .ok (.putfield 104, 3) := by decide +kernel
theorem dX23_program_25 : decode cX23_program 25 = .ok (.aload_n 0, 1) := by decide +kernel
theorem dX23_program_26 : decode cX23_program 26 = .ok (.invokevirtual 89, 3) := by decide +kernel
theorem dX23_program_29 : decode cX23_program 29 = .ok (.ifCond .eq 130, 3) := by decide +kernel
theorem dX23_program_32 : decode cX23_program 32 = .ok (.aload_n 0, 1) := by decide +kernel
theorem dX23_program_33 : decode cX23_program 33 = .ok (.iconst 0, 1) := by decide +kernel
theorem dX23_program_34 : decode cX23_program 34 = .ok (.invokevirtual 93, 3) := by decide +kernel
theorem dX23_program_37 : decode cX23_program 37 = .ok (.ifCond .ne 122, 3) := by decide +kernel
theorem dX23_program_40 : decode cX23_program 40 = .ok (.aload_n 0, 1) := by decide +kernel
theorem dX23_program_41 : decode cX23_program 41 = .ok (.bipush 10, 2) := by decide +kernel
theorem dX23_program_43 : decode cX23_program 43 = .ok (.invokevirtual 93, 3) := by decide +kernel
theorem dX23_program_46 : decode cX23_program 46 = .ok (.ifCond .ne 31, 3) := by decide +kernel
theorem dX23_program_49 : decode cX23_program 49 = .ok (.aload_n 0, 1) := by decide +kernel
theorem dX23_program_50 : decode cX23_program 50 = .ok (.bipush 11, 2) := by decide +kernel
theorem dX23_program_52 : decode cX23_program 52 = .ok (.invokevirtual 93, 3) := by decide +kernel
theorem dX23_program_55 : decode cX23_program 55 = .ok (.ifCond .ne 22, 3) := by decide +kernel
theorem dX23_program_58 : decode cX23_program 58 = .ok (.aload_n 0, 1) := by decide +kernel
theorem dX23_program_59 : decode cX23_program 59 = .ok (.bipush 12, 2) := by decide +kernel
theorem dX23_program_61 : decode cX23_program 61 = .ok (.invokevirtual 93, 3) := by decide +kernel
theorem dX23_program_64 : decode cX23_program 64 = .ok (.ifCond .ne 13, 3) := by decide +kernel
theorem dX23_program_67 : decode cX23_program 67 = .ok (.aload_n 0, 1) := by decide +kernel
theorem dX23_program_68 : decode cX23_program 68 = .ok (.iconst 1, 1) := by decide +kernel
theorem dX23_program_69 : decode cX23_program 69 = .ok (.aload_n 0, 1) := by decide +kernel
theorem dX23_program_70 : decode cX23_program 70 = .ok (.getfield 86, 3) := by decide +kernel
theorem dX23_program_73 : decode cX23_program 73 = .ok (.invokevirtual 96, 3) := by decide +kernel
theorem dX23_program_76 : decode cX23_program 76 = .ok (.return_, 1) := by decide +kernel
theorem dX23_program_77 : decode cX23_program 77 = .ok (.new 140, 3) := by decide +kernel
theorem dX23_program_80 : decode cX23_program 80 = .ok (.dup, 1) := by decide +kernel
theorem dX23_program_81 : decode cX23_program 81 = .ok (.invokespecial 224, 3) := by decide +kernel
theorem dX23_program_84 : decode cX23_program 84 = .ok (.astore_n 1, 1) := by decide +kernel
theorem dX23_program_85 : decode cX23_program 85 = .ok (.aload_n 1, 1) := by decide +kernel
theorem dX23_program_86 : decode cX23_program 86 = .ok (.aload_n 0, 1) := by decide +kernel
theorem dX23_program_87 : decode cX23_program 87 = .ok (.getfield 86, 3) := by decide +kernel
theorem dX23_program_90 : decode cX23_program 90 = .ok (.putfield 225, 3) := by decide +kernel
theorem dX23_program_93 : decode cX23_program 93 = .ok (.aload_n 1, 1) := by decide +kernel
theorem dX23_program_94 : decode cX23_program 94 = .ok (.aload_n 0, 1) := by decide +kernel
theorem dX23_program_95 : decode cX23_program 95 = .ok (.getfield 25, 3) := by decide +kernel
theorem dX23_program_98 : decode cX23_program 98 = .ok (.aload_n 0, 1) := by decide +kernel
theorem dX23_program_99 : decode cX23_program 99 = .ok (.getfield 86, 3) := by decide +kernel
theorem dX23_program_102 : decode cX23_program 102 = .ok (.iaload, 1) := by decide +kernel
theorem dX23_program_103 : decode cX23_program 103 = .ok (.putfield 174, 3) := by decide +kernel
theorem dX23_program_106 : decode cX23_program 106 = .ok (.aload_n 1, 1) := by decide +kernel
theorem dX23_program_107 : decode cX23_program 107 = .ok (.getfield 174, 3) := by decide +kernel
theorem dX23_program_110 : decode cX23_program 110 = .ok (.bipush 12, 2) := by decide +kernel
theorem dX23_program_112 : decode cX23_program 112 = .ok (.if_icmp .ne 11, 3) := by decide +kernel
theorem dX23_program_115 : decode cX23_program 115 = .ok (.aload_n 0, 1) := by decide +kernel
theorem dX23_program_116 : decode cX23_program 116 = .ok (.aload_n 1, 1) := by decide +kernel
theorem dX23_program_117 : decode cX23_program 117 = .ok (.invokevirtual 226, 3) := by decide +kernel
theorem dX23_program_120 : decode cX23_program 120 = .ok (.goto 8, 3) := by decide +kernel
theorem dX23_program_123 : decode cX23_program 123 = .ok (.aload_n 0, 1) := by decide +kernel
theorem dX23_program_124 : decode cX23_program 124 = .ok (.aload_n 1, 1) := by decide +kernel
theorem dX23_program_125 : decode cX23_program 125 = .ok (.invokevirtual 229, 3) := by decide +kernel
theorem dX23_program_128 : decode cX23_program 128 = .ok (.aload_n 0, 1) := by decide +kernel
theorem dX23_program_129 : decode cX23_program 129 = .ok (.invokevirtual 89, 3) := by decide +kernel
theorem dX23_program_132 : decode cX23_program 132 = .ok (.ifCond .ne 4, 3) := by decide +kernel
theorem dX23_program_135 : decode cX23_program 135 = .ok (.return_, 1) := by decide +kernel
theorem dX23_program_136 : decode cX23_program 136 = .ok (.aload_n 0, 1) := by decide +kernel
theorem dX23_program_137 : decode cX23_program 137 = .ok (.getfield 232, 3) := by decide +kernel
theorem dX23_program_140 : decode cX23_program 140 = .ok (.aload_n 0, 1) := by decide +kernel
theorem dX23_program_141 : decode cX23_program 141 = .ok (.getfield 221, 3) := by decide +kernel
theorem dX23_program_144 : decode cX23_program 144 = .ok (.aload_n 1, 1) := by decide +kernel
theorem dX23_program_145 : decode cX23_program 145 = .ok (.aastore, 1) := by decide +kernel
theorem dX23_program_146 : decode cX23_program 146 = .ok (.aload_n 0, 1) := by decide +kernel
theorem dX23_program_147 : decode cX23_program 147 = .ok (.dup, 1) := by decide +kernel
theorem dX23_program_148 : decode cX23_program 148 = .ok (.getfield 221, 3) := by decide +kernel
theorem dX23_program_151 : decode cX23_program 151 = .ok (.iconst 1, 1) := by decide +kernel
theorem dX23_program_152 : decode cX23_program 152 = .ok (.iadd, 1) := by decide +kernel
theorem dX23_program_153 : decode cX23_program 153 = .ok (.putfield 221, 3) := by decide +kernel
theorem dX23_program_156 : decode cX23_program 156 = .ok (.goto (-131), 3) := by decide +kernel
theorem dX23_program_159 : decode cX23_program 159 = .ok (.return_, 1) := by decide +kernel
theorem dX23_ok_0 : decode cX23_ok 0 = .ok (.aload_n 0, 1) := by decide +kernel
theorem dX23_ok_1 : decode cX23_ok 1 = .ok (.getfield 80, 3) := by decide +kernel
theorem dX23_ok_4 : decode cX23_ok 4 = .ok (.ifCond .ne 7, 3) := by decide +kernel
theorem dX23_ok_7 : decode cX23_ok 7 = .ok (.iconst 1, 1) := by decide +kernel
theorem dX23_ok_8 : decode cX23_ok 8 = .ok (.goto 4, 3) := by decide +kernel
theorem dX23_ok_11 : decode cX23_ok 11 = .ok (.iconst 0, 1) := by decide +kernel
theorem dX23_ok_12 : decode cX23_ok 12 = .ok (.ireturn, 1) := by decide +kernel
theorem dX23_is_0 : decode cX23_is 0 = .ok (.aload_n 0, 1) := by decide +kernel
theorem dX23_is_1 : decode cX23_is 1 = .ok (.getfield 25, 3) := by decide +kernel
theorem dX23_is_4 : decode cX23_is 4 = .ok (.aload_n 0, 1) := by decide +kernel
theorem dX23_is_5 : decode cX23_is 5 = .ok (.getfield 86, 3) := by decide +kernel
theorem dX23_is_8 : decode cX23_is 8 = .ok (.iaload, 1) := by decide +kernel
theorem dX23_is_9 : decode cX23_is 9 = .ok (.iload_n 1, 1) := by decide +kernel
theorem dX23_is_10 : decode cX23_is 10 = .ok (.if_icmp .ne 7, 3) := by decide +kernel
theorem dX23_is_13 : decode cX23_is 13 = .ok (.iconst 1, 1) := by decide +kernel
theorem dX23_is_14 : decode cX23_is 14 = .ok (.goto 4, 3) := by decide +kernel
theorem dX23_is_17 : decode cX23_is 17 = .ok (.iconst 0, 1) := by decide +kernel
theorem dX23_is_18 : decode cX23_is 18 = .ok (.ireturn, 1) := by decide +kernel
theorem dX23_fail_0 : decode cX23_fail 0 = .ok (.aload_n 0, 1) := by decide +kernel
theorem dX23_fail_1 : decode cX23_fail 1 = .ok (.getfield 80, 3) := by decide +kernel
theorem dX23_fail_4 : decode cX23_fail 4 = .ok (.ifCond .eq 4, 3) := by decide +kernel
theorem dX23_fail_7 : decode cX23_fail 7 = .ok (.return_, 1) := by decide +kernel
theorem dX23_fail_8 : decode cX23_fail 8 = .ok (.aload_n 0, 1) := by decide +kernel
theorem dX23_fail_9 : decode cX23_fail 9 = .ok (.iload_n 1, 1) := by decide +kernel
theorem dX23_fail_10 : decode cX23_fail 10 = .ok (.putfield 80, 3) := by decide +kernel
theorem dX23_fail_13 : decode cX23_fail 13 = .ok (.aload_n 0, 1) := by decide +kernel
theorem dX23_fail_14 : decode cX23_fail 14 = .ok (.aload_n 0, 1) := by decide +kernel
theorem dX23_fail_15 : decode cX23_fail 15 = .ok (.getfield 31, 3) := by decide +kernel
theorem dX23_fail_18 : decode cX23_fail 18 = .ok (.iload_n 2, 1) := by decide +kernel
theorem dX23_fail_19 : decode cX23_fail 19 = .ok (.iaload, 1) := by decide +kernel
theorem dX23_fail_20 : decode cX23_fail 20 = .ok (.putfield 83, 3) := by decide +kernel
theorem dX23_fail_23 : decode cX23_fail 23 = .ok (.return_, 1) := by decide +kernel
theorem dX23_typeAll_0 : decode cX23_typeAll 0 = .ok (.aload_n 0, 1) := by decide +kernel
theorem dX23_typeAll_1 : decode cX23_typeAll 1 = .ok (.iconst 0, 1) := by decide +kernel
theorem dX23_typeAll_2 : decode cX23_typeAll 2 = .ok (.putfield 382, 3) := by decide +kernel
theorem dX23_typeAll_5 : decode cX23_typeAll 5 = .ok (.aload_n 0, 1) := by decide +kernel
theorem dX23_typeAll_6 : decode cX23_typeAll 6 = .ok (.invokevirtual 605, 3) := by decide +kernel
theorem dX23_typeAll_9 : decode cX23_typeAll 9 = .ok (.iconst 0, 1) := by decide +kernel
theorem dX23_typeAll_10 : decode cX23_typeAll 10 = .ok (.istore_n 1, 1) := by decide +kernel
theorem dX23_typeAll_11 : decode cX23_typeAll 11 = .ok (.iload_n 1, 1) := by decide +kernel
theorem dX23_typeAll_12 : decode cX23_typeAll 12 = .ok (.aload_n 0, 1) := by decide +kernel
theorem dX23_typeAll_13 : decode cX23_typeAll 13 = .ok (.getfield 221, 3) := by decide +kernel
theorem dX23_typeAll_16 : decode cX23_typeAll 16 = .ok (.if_icmp .ge 26, 3) := by decide +kernel
theorem dX23_typeAll_19 : decode cX23_typeAll 19 = .ok (.aload_n 0, 1) := by decide +kernel
theorem dX23_typeAll_20 : decode cX23_typeAll 20 = .ok (.invokevirtual 89, 3) := by decide +kernel
theorem dX23_typeAll_23 : decode cX23_typeAll 23 = .ok (.ifCond .eq 19, 3) := by decide +kernel
theorem dX23_typeAll_26 : decode cX23_typeAll 26 = .ok (.aload_n 0, 1) := by decide +kernel
theorem dX23_typeAll_27 : decode cX23_typeAll 27 = .ok (.aload_n 0, 1) := by decide +kernel
theorem dX23_typeAll_28 : decode cX23_typeAll 28 = .ok (.getfield 232, 3) := by decide +kernel
theorem dX23_typeAll_31 : decode cX23_typeAll 31 = .ok (.iload_n 1, 1) := by decide +kernel
theorem dX23_typeAll_32 : decode cX23_typeAll 32 = .ok (.aaload, 1) := by decide +kernel
theorem dX23_typeAll_33 : decode cX23_typeAll 33 = .ok (.invokevirtual 608, 3) := by decide +kernel
theorem dX23_typeAll_36 : decode cX23_typeAll 36 = .ok (.iinc 1 1, 3) := by decide +kernel
theorem dX23_typeAll_39 : decode cX23_typeAll 39 = .ok (.goto (-28), 3) := by decide +kernel
theorem dX23_typeAll_42 : decode cX23_typeAll 42 = .ok (.aload_n 0, 1) := by decide +kernel
theorem dX23_typeAll_43 : decode cX23_typeAll 43 = .ok (.invokevirtual 89, 3) := by decide +kernel
theorem dX23_typeAll_46 : decode cX23_typeAll 46 = .ok (.ifCond .eq 7, 3) := by decide +kernel
theorem dX23_typeAll_49 : decode cX23_typeAll 49 = .ok (.aload_n 0, 1) := by decide +kernel
theorem dX23_typeAll_50 : decode cX23_typeAll 50 = .ok (.invokevirtual 611, 3) := by decide +kernel
theorem dX23_typeAll_53 : decode cX23_typeAll 53 = .ok (.aload_n 0, 1) := by decide +kernel
theorem dX23_typeAll_54 : decode cX23_typeAll 54 = .ok (.invokevirtual 89, 3) := by decide +kernel
theorem dX23_typeAll_57 : decode cX23_typeAll 57 = .ok (.ifCond .eq 7, 3) := by decide +kernel
theorem dX23_typeAll_60 : decode cX23_typeAll 60 = .ok (.aload_n 0, 1) := by decide +kernel
theorem dX23_typeAll_61 : decode cX23_typeAll 61 = .ok (.invokevirtual 614, 3) := by decide +kernel
theorem dX23_typeAll_64 : decode cX23_typeAll 64 = .ok (.aload_n 0, 1) := by decide +kernel
theorem dX23_typeAll_65 : decode cX23_typeAll 65 = .ok (.invokevirtual 89, 3) := by decide +kernel
theorem dX23_typeAll_68 : decode cX23_typeAll 68 = .ok (.ifCond .eq 7, 3) := by decide +kernel
theorem dX23_typeAll_71 : decode cX23_typeAll 71 = .ok (.aload_n 0, 1) := by decide +kernel
theorem dX23_typeAll_72 : decode cX23_typeAll 72 = .ok (.invokevirtual 616, 3) := by decide +kernel
theorem dX23_typeAll_75 : decode cX23_typeAll 75 = .ok (.iconst 0, 1) := by decide +kernel
theorem dX23_typeAll_76 : decode cX23_typeAll 76 = .ok (.istore_n 1, 1) := by decide +kernel
theorem dX23_typeAll_77 : decode cX23_typeAll 77 = .ok (.iload_n 1, 1) := by decide +kernel
theorem dX23_typeAll_78 : decode cX23_typeAll 78 = .ok (.aload_n 0, 1) := by decide +kernel
theorem dX23_typeAll_79 : decode cX23_typeAll 79 = .ok (.getfield 221, 3) := by decide +kernel
theorem dX23_typeAll_82 : decode cX23_typeAll 82 = .ok (.if_icmp .ge 35, 3) := by decide +kernel
theorem dX23_typeAll_85 : decode cX23_typeAll 85 = .ok (.aload_n 0, 1) := by decide +kernel
theorem dX23_typeAll_86 : decode cX23_typeAll 86 = .ok (.invokevirtual 89, 3) := by decide +kernel
theorem dX23_typeAll_89 : decode cX23_typeAll 89 = .ok (.ifCond .eq 28, 3) := by decide +kernel
theorem dX23_typeAll_92 : decode cX23_typeAll 92 = .ok (.aload_n 0, 1) := by decide +kernel
theorem dX23_typeAll_93 : decode cX23_typeAll 93 = .ok (.getfield 232, 3) := by decide +kernel
theorem dX23_typeAll_96 : decode cX23_typeAll 96 = .ok (.iload_n 1, 1) := by decide +kernel
theorem dX23_typeAll_97 : decode cX23_typeAll 97 = .ok (.aaload, 1) := by decide +kernel
theorem dX23_typeAll_98 : decode cX23_typeAll 98 = .ok (.getfield 174, 3) := by decide +kernel
theorem dX23_typeAll_101 : decode cX23_typeAll 101 = .ok (.bipush 12, 2) := by decide +kernel
theorem dX23_typeAll_103 : decode cX23_typeAll 103 = .ok (.if_icmp .ne 8, 3) := by decide +kernel
theorem dX23_typeAll_106 : decode cX23_typeAll 106 = .ok (.aload_n 0, 1) := by decide +kernel
theorem dX23_typeAll_107 : decode cX23_typeAll 107 = .ok (.iload_n 1, 1) := by decide +kernel
theorem dX23_typeAll_108 : decode cX23_typeAll 108 = .ok (.invokevirtual 619, 3) := by decide +kernel
theorem dX23_typeAll_111 : decode cX23_typeAll 111 = .ok (.iinc 1 1, 3) := by decide +kernel
theorem dX23_typeAll_114 : decode cX23_typeAll 114 = .ok (.goto (-37), 3) := by decide +kernel
theorem dX23_typeAll_117 : decode cX23_typeAll 117 = .ok (.return_, 1) := by decide +kernel
theorem dX23_itemNames_0 : decode cX23_itemNames 0 = .ok (.iconst 0, 1) := by decide +kernel
theorem dX23_itemNames_1 : decode cX23_itemNames 1 = .ok (.istore_n 1, 1) := by decide +kernel
theorem dX23_itemNames_2 : decode cX23_itemNames 2 = .ok (.iload_n 1, 1) := by decide +kernel
theorem dX23_itemNames_3 : decode cX23_itemNames 3 = .ok (.aload_n 0, 1) := by decide +kernel
theorem dX23_itemNames_4 : decode cX23_itemNames 4 = .ok (.getfield 221, 3) := by decide +kernel
theorem dX23_itemNames_7 : decode cX23_itemNames 7 = .ok (.if_icmp .ge 61, 3) := by decide +kernel
theorem dX23_itemNames_10 : decode cX23_itemNames 10 = .ok (.iconst 0, 1) := by decide +kernel
theorem dX23_itemNames_11 : decode cX23_itemNames 11 = .ok (.istore_n 2, 1) := by decide +kernel
theorem dX23_itemNames_12 : decode cX23_itemNames 12 = .ok (.iload_n 2, 1) := by decide +kernel
theorem dX23_itemNames_13 : decode cX23_itemNames 13 = .ok (.iload_n 1, 1) := by decide +kernel
theorem dX23_itemNames_14 : decode cX23_itemNames 14 = .ok (.if_icmp .ge 48, 3) := by decide +kernel
theorem dX23_itemNames_17 : decode cX23_itemNames 17 = .ok (.aload_n 0, 1) := by decide +kernel
theorem dX23_itemNames_18 : decode cX23_itemNames 18 = .ok (.aload_n 0, 1) := by decide +kernel
theorem dX23_itemNames_19 : decode cX23_itemNames 19 = .ok (.getfield 232, 3) := by decide +kernel
theorem dX23_itemNames_22 : decode cX23_itemNames 22 = .ok (.iload_n 1, 1) := by decide +kernel
theorem dX23_itemNames_23 : decode cX23_itemNames 23 = .ok (.aaload, 1) := by decide +kernel
theorem dX23_itemNames_24 : decode cX23_itemNames 24 = .ok (.getfield 176, 3) := by decide +kernel
theorem dX23_itemNames_27 : decode cX23_itemNames 27 = .ok (.aload_n 0, 1) := by decide +kernel
theorem dX23_itemNames_28 : decode cX23_itemNames 28 = .ok (.getfield 232, 3) := by decide +kernel
theorem dX23_itemNames_31 : decode cX23_itemNames 31 = .ok (.iload_n 2, 1) := by decide +kernel
theorem dX23_itemNames_32 : decode cX23_itemNames 32 = .ok (.aaload, 1) := by decide +kernel
theorem dX23_itemNames_33 : decode cX23_itemNames 33 = .ok (.getfield 176, 3) := by decide +kernel
theorem dX23_itemNames_36 : decode cX23_itemNames 36 = .ok (.invokevirtual 401, 3) := by decide +kernel
theorem dX23_itemNames_39 : decode cX23_itemNames 39 = .ok (.ifCond .eq 17, 3) := by decide +kernel
theorem dX23_itemNames_42 : decode cX23_itemNames 42 = .ok (.aload_n 0, 1) := by decide +kernel
theorem dX23_itemNames_43 : decode cX23_itemNames 43 = .ok (.iconst 3, 1) := by decide +kernel
theorem dX23_itemNames_44 : decode cX23_itemNames 44 = .ok (.aload_n 0, 1) := by decide +kernel
theorem dX23_itemNames_45 : decode cX23_itemNames 45 = .ok (.getfield 232, 3) := by decide +kernel
theorem dX23_itemNames_48 : decode cX23_itemNames 48 = .ok (.iload_n 1, 1) := by decide +kernel
theorem dX23_itemNames_49 : decode cX23_itemNames 49 = .ok (.aaload, 1) := by decide +kernel
theorem dX23_itemNames_50 : decode cX23_itemNames 50 = .ok (.getfield 176, 3) := by decide +kernel
theorem dX23_itemNames_53 : decode cX23_itemNames 53 = .ok (.invokevirtual 96, 3) := by decide +kernel
theorem dX23_itemNames_56 : decode cX23_itemNames 56 = .ok (.iinc 2 1, 3) := by decide +kernel
theorem dX23_itemNames_59 : decode cX23_itemNames 59 = .ok (.goto (-47), 3) := by decide +kernel
theorem dX23_itemNames_62 : decode cX23_itemNames 62 = .ok (.iinc 1 1, 3) := by decide +kernel
theorem dX23_itemNames_65 : decode cX23_itemNames 65 = .ok (.goto (-63), 3) := by decide +kernel
theorem dX23_itemNames_68 : decode cX23_itemNames 68 = .ok (.return_, 1) := by decide +kernel
theorem dX23_sizes_0 : decode cX23_sizes 0 = .ok (.aload_n 0, 1) := by decide +kernel
theorem dX23_sizes_1 : decode cX23_sizes 1 = .ok (.invokevirtual 451, 3) := by decide +kernel
theorem dX23_sizes_4 : decode cX23_sizes 4 = .ok (.iconst 0, 1) := by decide +kernel
theorem dX23_sizes_5 : decode cX23_sizes 5 = .ok (.istore_n 1, 1) := by decide +kernel
theorem dX23_sizes_6 : decode cX23_sizes 6 = .ok (.iload_n 1, 1) := by decide +kernel
theorem dX23_sizes_7 : decode cX23_sizes 7 = .ok (.aload_n 0, 1) := by decide +kernel
theorem dX23_sizes_8 : decode cX23_sizes 8 = .ok (.getfield 221, 3) := by decide +kernel
theorem dX23_sizes_11 : decode cX23_sizes 11 = .ok (.if_icmp .ge 71, 3) := by decide +kernel
theorem dX23_sizes_14 : decode cX23_sizes 14 = .ok (.aload_n 0, 1) := by decide +kernel
theorem dX23_sizes_15 : decode cX23_sizes 15 = .ok (.invokevirtual 89, 3) := by decide +kernel
theorem dX23_sizes_18 : decode cX23_sizes 18 = .ok (.ifCond .eq 64, 3) := by decide +kernel
theorem dX23_sizes_21 : decode cX23_sizes 21 = .ok (.aload_n 0, 1) := by decide +kernel
theorem dX23_sizes_22 : decode cX23_sizes 22 = .ok (.getfield 232, 3) := by decide +kernel
theorem dX23_sizes_25 : decode cX23_sizes 25 = .ok (.iload_n 1, 1) := by decide +kernel
theorem dX23_sizes_26 : decode cX23_sizes 26 = .ok (.aaload, 1) := by decide +kernel
theorem dX23_sizes_27 : decode cX23_sizes 27 = .ok (.getfield 174, 3) := by decide +kernel
theorem dX23_sizes_30 : decode cX23_sizes 30 = .ok (.bipush 12, 2) := by decide +kernel
theorem dX23_sizes_32 : decode cX23_sizes 32 = .ok (.if_icmp .eq 44, 3) := by decide +kernel
theorem dX23_sizes_35 : decode cX23_sizes 35 = .ok (.aload_n 0, 1) := by decide +kernel
theorem dX23_sizes_36 : decode cX23_sizes 36 = .ok (.getfield 232, 3) := by decide +kernel
theorem dX23_sizes_39 : decode cX23_sizes 39 = .ok (.iload_n 1, 1) := by decide +kernel
theorem dX23_sizes_40 : decode cX23_sizes 40 = .ok (.aaload, 1) := by decide +kernel
theorem dX23_sizes_41 : decode cX23_sizes 41 = .ok (.getfield 439, 3) := by decide +kernel
theorem dX23_sizes_44 : decode cX23_sizes 44 = .ok (.ifCond .ne 18, 3) := by decide +kernel
theorem dX23_sizes_47 : decode cX23_sizes 47 = .ok (.aload_n 0, 1) := by decide +kernel
theorem dX23_sizes_48 : decode cX23_sizes 48 = .ok (.aload_n 0, 1) := by decide +kernel
theorem dX23_sizes_49 : decode cX23_sizes 49 = .ok (.getfield 232, 3) := by decide +kernel
theorem dX23_sizes_52 : decode cX23_sizes 52 = .ok (.iload_n 1, 1) := by decide +kernel
theorem dX23_sizes_53 : decode cX23_sizes 53 = .ok (.aaload, 1) := by decide +kernel
theorem dX23_sizes_54 : decode cX23_sizes 54 = .ok (.invokevirtual 443, 3) := by decide +kernel
theorem dX23_sizes_57 : decode cX23_sizes 57 = .ok (.bipush 16, 2) := by decide +kernel
theorem dX23_sizes_59 : decode cX23_sizes 59 = .ok (.if_icmp .le 17, 3) := by decide +kernel
theorem dX23_sizes_62 : decode cX23_sizes 62 = .ok (.aload_n 0, 1) := by decide +kernel
theorem dX23_sizes_63 : decode cX23_sizes 63 = .ok (.iconst 4, 1) := by decide +kernel
theorem dX23_sizes_64 : decode cX23_sizes 64 = .ok (.aload_n 0, 1) := by decide +kernel
theorem dX23_sizes_65 : decode cX23_sizes 65 = .ok (.getfield 232, 3) := by decide +kernel
theorem dX23_sizes_68 : decode cX23_sizes 68 = .ok (.iload_n 1, 1) := by decide +kernel
theorem dX23_sizes_69 : decode cX23_sizes 69 = .ok (.aaload, 1) := by decide +kernel
theorem dX23_sizes_70 : decode cX23_sizes 70 = .ok (.getfield 176, 3) := by decide +kernel
theorem dX23_sizes_73 : decode cX23_sizes 73 = .ok (.invokevirtual 96, 3) := by decide +kernel
theorem dX23_sizes_76 : decode cX23_sizes 76 = .ok (.iinc 1 1, 3) := by decide +kernel
theorem dX23_sizes_79 : decode cX23_sizes 79 = .ok (.goto (-73), 3) := by decide +kernel
theorem dX23_sizes_82 : decode cX23_sizes 82 = .ok (.return_, 1) := by decide +kernel
theorem dX23_leaves_0 : decode cX23_leaves 0 = .ok (.iconst 0, 1) := by decide +kernel
theorem dX23_leaves_1 : decode cX23_leaves 1 = .ok (.istore_n 1, 1) := by decide +kernel
theorem dX23_leaves_2 : decode cX23_leaves 2 = .ok (.iload_n 1, 1) := by decide +kernel
theorem dX23_leaves_3 : decode cX23_leaves 3 = .ok (.aload_n 0, 1) := by decide +kernel
theorem dX23_leaves_4 : decode cX23_leaves 4 = .ok (.getfield 221, 3) := by decide +kernel
theorem dX23_leaves_7 : decode cX23_leaves 7 = .ok (.if_icmp .ge 34, 3) := by decide +kernel
theorem dX23_leaves_10 : decode cX23_leaves 10 = .ok (.aload_n 0, 1) := by decide +kernel
theorem dX23_leaves_11 : decode cX23_leaves 11 = .ok (.getfield 232, 3) := by decide +kernel
theorem dX23_leaves_14 : decode cX23_leaves 14 = .ok (.iload_n 1, 1) := by decide +kernel
theorem dX23_leaves_15 : decode cX23_leaves 15 = .ok (.aaload, 1) := by decide +kernel
theorem dX23_leaves_16 : decode cX23_leaves 16 = .ok (.getfield 174, 3) := by decide +kernel
theorem dX23_leaves_19 : decode cX23_leaves 19 = .ok (.bipush 10, 2) := by decide +kernel
theorem dX23_leaves_21 : decode cX23_leaves 21 = .ok (.if_icmp .ne 14, 3) := by decide +kernel
theorem dX23_leaves_24 : decode cX23_leaves 24 = .ok (.aload_n 0, 1) := by decide +kernel
theorem dX23_leaves_25 : decode cX23_leaves 25 = .ok (.aload_n 0, 1) := by decide +kernel
theorem dX23_leaves_26 : decode cX23_leaves 26 = .ok (.getfield 232, 3) := by decide +kernel
theorem dX23_leaves_29 : decode cX23_leaves 29 = .ok (.iload_n 1, 1) := by decide +kernel
theorem dX23_leaves_30 : decode cX23_leaves 30 = .ok (.aaload, 1) := by decide +kernel
theorem dX23_leaves_31 : decode cX23_leaves 31 = .ok (.invokevirtual 456, 3) := by decide +kernel
theorem dX23_leaves_34 : decode cX23_leaves 34 = .ok (.pop, 1) := by decide +kernel
theorem dX23_leaves_35 : decode cX23_leaves 35 = .ok (.iinc 1 1, 3) := by decide +kernel
theorem dX23_leaves_38 : decode cX23_leaves 38 = .ok (.goto (-36), 3) := by decide +kernel
theorem dX23_leaves_41 : decode cX23_leaves 41 = .ok (.return_, 1) := by decide +kernel
theorem dX23_findMain_0 : decode cX23_findMain 0 = .ok (.aload_n 0, 1) := by decide +kernel
theorem dX23_findMain_1 : decode cX23_findMain 1 = .ok (.iconst (-1), 1) := by decide +kernel
theorem dX23_findMain_2 : decode cX23_findMain 2 = .ok (.putfield 459, 3) := by decide +kernel
theorem dX23_findMain_5 : decode cX23_findMain 5 = .ok (.iconst 0, 1) := by decide +kernel
theorem dX23_findMain_6 : decode cX23_findMain 6 = .ok (.istore_n 1, 1) := by decide +kernel
theorem dX23_findMain_7 : decode cX23_findMain 7 = .ok (.iload_n 1, 1) := by decide +kernel
theorem dX23_findMain_8 : decode cX23_findMain 8 = .ok (.aload_n 0, 1) := by decide +kernel
theorem dX23_findMain_9 : decode cX23_findMain 9 = .ok (.getfield 221, 3) := by decide +kernel
theorem dX23_findMain_12 : decode cX23_findMain 12 = .ok (.if_icmp .ge 44, 3) := by decide +kernel
theorem dX23_findMain_15 : decode cX23_findMain 15 = .ok (.aload_n 0, 1) := by decide +kernel
theorem dX23_findMain_16 : decode cX23_findMain 16 = .ok (.getfield 232, 3) := by decide +kernel
theorem dX23_findMain_19 : decode cX23_findMain 19 = .ok (.iload_n 1, 1) := by decide +kernel
theorem dX23_findMain_20 : decode cX23_findMain 20 = .ok (.aaload, 1) := by decide +kernel
theorem dX23_findMain_21 : decode cX23_findMain 21 = .ok (.getfield 174, 3) := by decide +kernel
theorem dX23_findMain_24 : decode cX23_findMain 24 = .ok (.bipush 12, 2) := by decide +kernel
theorem dX23_findMain_26 : decode cX23_findMain 26 = .ok (.if_icmp .ne 24, 3) := by decide +kernel
theorem dX23_findMain_29 : decode cX23_findMain 29 = .ok (.aload_n 0, 1) := by decide +kernel
theorem dX23_findMain_30 : decode cX23_findMain 30 = .ok (.aload_n 0, 1) := by decide +kernel
theorem dX23_findMain_31 : decode cX23_findMain 31 = .ok (.getfield 232, 3) := by decide +kernel
theorem dX23_findMain_34 : decode cX23_findMain 34 = .ok (.iload_n 1, 1) := by decide +kernel
theorem dX23_findMain_35 : decode cX23_findMain 35 = .ok (.aaload, 1) := by decide +kernel
theorem dX23_findMain_36 : decode cX23_findMain 36 = .ok (.getfield 176, 3) := by decide +kernel
theorem dX23_findMain_39 : decode cX23_findMain 39 = .ok (.invokevirtual 462, 3) := by decide +kernel
theorem dX23_findMain_42 : decode cX23_findMain 42 = .ok (.ifCond .eq 8, 3) := by decide +kernel
theorem dX23_findMain_45 : decode cX23_findMain 45 = .ok (.aload_n 0, 1) := by decide +kernel
theorem dX23_findMain_46 : decode cX23_findMain 46 = .ok (.iload_n 1, 1) := by decide +kernel
theorem dX23_findMain_47 : decode cX23_findMain 47 = .ok (.putfield 459, 3) := by decide +kernel
theorem dX23_findMain_50 : decode cX23_findMain 50 = .ok (.iinc 1 1, 3) := by decide +kernel
theorem dX23_findMain_53 : decode cX23_findMain 53 = .ok (.goto (-46), 3) := by decide +kernel
theorem dX23_findMain_56 : decode cX23_findMain 56 = .ok (.aload_n 0, 1) := by decide +kernel
theorem dX23_findMain_57 : decode cX23_findMain 57 = .ok (.getfield 459, 3) := by decide +kernel
theorem dX23_findMain_60 : decode cX23_findMain 60 = .ok (.ifCond .ge 17, 3) := by decide +kernel
theorem dX23_findMain_63 : decode cX23_findMain 63 = .ok (.aload_n 0, 1) := by decide +kernel
theorem dX23_findMain_64 : decode cX23_findMain 64 = .ok (.iconst 3, 1) := by decide +kernel
theorem dX23_findMain_65 : decode cX23_findMain 65 = .ok (.aload_n 0, 1) := by decide +kernel
theorem dX23_findMain_66 : decode cX23_findMain 66 = .ok (.getfield 28, 3) := by decide +kernel
theorem dX23_findMain_69 : decode cX23_findMain 69 = .ok (.iconst 1, 1) := by decide +kernel
theorem dX23_findMain_70 : decode cX23_findMain 70 = .ok (.isub, 1) := by decide +kernel
theorem dX23_findMain_71 : decode cX23_findMain 71 = .ok (.invokevirtual 96, 3) := by decide +kernel
theorem dX23_findMain_74 : decode cX23_findMain 74 = .ok (.goto 70, 3) := by decide +kernel
theorem dX23_findMain_77 : decode cX23_findMain 77 = .ok (.aload_n 0, 1) := by decide +kernel
theorem dX23_findMain_78 : decode cX23_findMain 78 = .ok (.getfield 232, 3) := by decide +kernel
theorem dX23_findMain_81 : decode cX23_findMain 81 = .ok (.aload_n 0, 1) := by decide +kernel
theorem dX23_findMain_82 : decode cX23_findMain 82 = .ok (.getfield 459, 3) := by decide +kernel
theorem dX23_findMain_85 : decode cX23_findMain 85 = .ok (.aaload, 1) := by decide +kernel
theorem dX23_findMain_86 : decode cX23_findMain 86 = .ok (.getfield 139, 3) := by decide +kernel
theorem dX23_findMain_89 : decode cX23_findMain 89 = .ok (.ifCond .gt 38, 3) := by decide +kernel
theorem dX23_findMain_92 : decode cX23_findMain 92 = .ok (.aload_n 0, 1) := by decide +kernel
theorem dX23_findMain_93 : decode cX23_findMain 93 = .ok (.getfield 232, 3) := by decide +kernel
theorem dX23_findMain_96 : decode cX23_findMain 96 = .ok (.aload_n 0, 1) := by decide +kernel
theorem dX23_findMain_97 : decode cX23_findMain 97 = .ok (.getfield 459, 3) := by decide +kernel
theorem dX23_findMain_100 : decode cX23_findMain 100 = .ok (.aaload, 1) := by decide +kernel
theorem dX23_findMain_101 : decode cX23_findMain 101 = .ok (.getfield 184, 3) := by decide +kernel
theorem dX23_findMain_104 : decode cX23_findMain 104 = .ok (.ifCond .gt 23, 3) := by decide +kernel
theorem dX23_findMain_107 : decode cX23_findMain 107 = .ok (.aload_n 0, 1) := by decide +kernel
theorem dX23_findMain_108 : decode cX23_findMain 108 = .ok (.getfield 232, 3) := by decide +kernel
theorem dX23_findMain_111 : decode cX23_findMain 111 = .ok (.aload_n 0, 1) := by decide +kernel
theorem dX23_findMain_112 : decode cX23_findMain 112 = .ok (.getfield 459, 3) := by decide +kernel
theorem dX23_findMain_115 : decode cX23_findMain 115 = .ok (.aaload, 1) := by decide +kernel
theorem dX23_findMain_116 : decode cX23_findMain 116 = .ok (.getfield 422, 3) := by decide +kernel
theorem dX23_findMain_119 : decode cX23_findMain 119 = .ok (.getfield 386, 3) := by decide +kernel
theorem dX23_findMain_122 : decode cX23_findMain 122 = .ok (.bipush 8, 2) := by decide +kernel
theorem dX23_findMain_124 : decode cX23_findMain 124 = .ok (.if_icmp .eq 20, 3) := by decide +kernel
theorem dX23_findMain_127 : decode cX23_findMain 127 = .ok (.aload_n 0, 1) := by decide +kernel
theorem dX23_findMain_128 : decode cX23_findMain 128 = .ok (.iconst 4, 1) := by decide +kernel
theorem dX23_findMain_129 : decode cX23_findMain 129 = .ok (.aload_n 0, 1) := by decide +kernel
theorem dX23_findMain_130 : decode cX23_findMain 130 = .ok (.getfield 232, 3) := by decide +kernel
theorem dX23_findMain_133 : decode cX23_findMain 133 = .ok (.aload_n 0, 1) := by decide +kernel
theorem dX23_findMain_134 : decode cX23_findMain 134 = .ok (.getfield 459, 3) := by decide +kernel
theorem dX23_findMain_137 : decode cX23_findMain 137 = .ok (.aaload, 1) := by decide +kernel
theorem dX23_findMain_138 : decode cX23_findMain 138 = .ok (.getfield 176, 3) := by decide +kernel
theorem dX23_findMain_141 : decode cX23_findMain 141 = .ok (.invokevirtual 96, 3) := by decide +kernel
theorem dX23_findMain_144 : decode cX23_findMain 144 = .ok (.return_, 1) := by decide +kernel
theorem dL_cell_0 : decode cL_cell 0 = .ok (.iload_n 1, 1) := by decide +kernel
theorem dL_cell_1 : decode cL_cell 1 = .ok (.aload_n 0, 1) := by decide +kernel
theorem dL_cell_2 : decode cL_cell 2 = .ok (.arraylength, 1) := by decide +kernel
theorem dL_cell_3 : decode cL_cell 3 = .ok (.if_icmp .ge 9, 3) := by decide +kernel
theorem dL_cell_6 : decode cL_cell 6 = .ok (.aload_n 0, 1) := by decide +kernel
theorem dL_cell_7 : decode cL_cell 7 = .ok (.iload_n 1, 1) := by decide +kernel
theorem dL_cell_8 : decode cL_cell 8 = .ok (.iaload, 1) := by decide +kernel
theorem dL_cell_9 : decode cL_cell 9 = .ok (.goto 4, 3) := by decide +kernel
theorem dL_cell_12 : decode cL_cell 12 = .ok (.iconst 0, 1) := by decide +kernel
theorem dL_cell_13 : decode cL_cell 13 = .ok (.ireturn, 1) := by decide +kernel
theorem dL_law_0 : decode cL_law 0 = .ok (.new 7, 3) := by decide +kernel
theorem dL_law_3 : decode cL_law 3 = .ok (.dup, 1) := by decide +kernel
theorem dL_law_4 : decode cL_law 4 = .ok (.aload_n 0, 1) := by decide +kernel
theorem dL_law_5 : decode cL_law 5 = .ok (.iconst 0, 1) := by decide +kernel
theorem dL_law_6 : decode cL_law 6 = .ok (.invokestatic 9, 3) := by decide +kernel
theorem dL_law_9 : decode cL_law 9 = .ok (.invokespecial 15, 3) := by decide +kernel
theorem dL_law_12 : decode cL_law 12 = .ok (.astore_n 1, 1) := by decide +kernel
theorem dL_law_13 : decode cL_law 13 = .ok (.new 18, 3) := by decide +kernel
theorem dL_law_16 : decode cL_law 16 = .ok (.dup, 1) := by decide +kernel
theorem dL_law_17 : decode cL_law 17 = .ok (.aload_n 0, 1) := by decide +kernel
theorem dL_law_18 : decode cL_law 18 = .ok (.iconst 0, 1) := by decide +kernel
theorem dL_law_19 : decode cL_law 19 = .ok (.invokestatic 9, 3) := by decide +kernel
theorem dL_law_22 : decode cL_law 22 = .ok (.invokespecial 20, 3) := by decide +kernel
theorem dL_law_25 : decode cL_law 25 = .ok (.astore_n 2, 1) := by decide +kernel
theorem dL_law_26 : decode cL_law 26 = .ok (.iconst 1, 1) := by decide +kernel
theorem dL_law_27 : decode cL_law 27 = .ok (.istore_n 3, 1) := by decide +kernel
theorem dL_law_28 : decode cL_law 28 = .ok (.iload_n 3, 1) := by decide +kernel
theorem dL_law_29 : decode cL_law 29 = .ok (.aload_n 0, 1) := by decide +kernel
theorem dL_law_30 : decode cL_law 30 = .ok (.arraylength, 1) := by decide +kernel
theorem dL_law_31 : decode cL_law 31 = .ok (.bipush 6, 2) := by decide +kernel
theorem dL_law_33 : decode cL_law 33 = .ok (.isub, 1) := by decide +kernel
theorem dL_law_34 : decode cL_law 34 = .ok (.if_icmp .gt 251, 3) := by decide +kernel
theorem dL_law_37 : decode cL_law 37 = .ok (.aload_n 0, 1) := by decide +kernel
theorem dL_law_38 : decode cL_law 38 = .ok (.iload_n 3, 1) := by decide +kernel
theorem dL_law_39 : decode cL_law 39 = .ok (.iaload, 1) := by decide +kernel
theorem dL_law_40 : decode cL_law 40 = .ok (.bipush 7, 2) := by decide +kernel
theorem dL_law_42 : decode cL_law 42 = .ok (.iand, 1) := by decide +kernel
theorem dL_law_43 : decode cL_law 43 = .ok (.tableswitch 236 0 5 #[37, 100, 153, 186, 199, 213], 37) := by decide +kernel
theorem dL_law_80 : decode cL_law 80 = .ok (.aload_n 1, 1) := by decide +kernel
theorem dL_law_81 : decode cL_law 81 = .ok (.aload_n 0, 1) := by decide +kernel
theorem dL_law_82 : decode cL_law 82 = .ok (.iload_n 3, 1) := by decide +kernel
theorem dL_law_83 : decode cL_law 83 = .ok (.iconst 1, 1) := by decide +kernel
theorem dL_law_84 : decode cL_law 84 = .ok (.iadd, 1) := by decide +kernel
theorem dL_law_85 : decode cL_law 85 = .ok (.iaload, 1) := by decide +kernel
theorem dL_law_86 : decode cL_law 86 = .ok (.aload_n 0, 1) := by decide +kernel
theorem dL_law_87 : decode cL_law 87 = .ok (.iload_n 3, 1) := by decide +kernel
theorem dL_law_88 : decode cL_law 88 = .ok (.iconst 2, 1) := by decide +kernel
theorem dL_law_89 : decode cL_law 89 = .ok (.iadd, 1) := by decide +kernel
theorem dL_law_90 : decode cL_law 90 = .ok (.iaload, 1) := by decide +kernel
theorem dL_law_91 : decode cL_law 91 = .ok (.aload_n 0, 1) := by decide +kernel
theorem dL_law_92 : decode cL_law 92 = .ok (.iload_n 3, 1) := by decide +kernel
theorem dL_law_93 : decode cL_law 93 = .ok (.iconst 3, 1) := by decide +kernel
theorem dL_law_94 : decode cL_law 94 = .ok (.iadd, 1) := by decide +kernel
theorem dL_law_95 : decode cL_law 95 = .ok (.iaload, 1) := by decide +kernel
theorem dL_law_96 : decode cL_law 96 = .ok (.aload_n 0, 1) := by decide +kernel
theorem dL_law_97 : decode cL_law 97 = .ok (.iload_n 3, 1) := by decide +kernel
theorem dL_law_98 : decode cL_law 98 = .ok (.iconst 4, 1) := by decide +kernel
theorem dL_law_99 : decode cL_law 99 = .ok (.iadd, 1) := by decide +kernel
theorem dL_law_100 : decode cL_law 100 = .ok (.iaload, 1) := by decide +kernel
theorem dL_law_101 : decode cL_law 101 = .ok (.aload_n 0, 1) := by decide +kernel
theorem dL_law_102 : decode cL_law 102 = .ok (.iload_n 3, 1) := by decide +kernel
theorem dL_law_103 : decode cL_law 103 = .ok (.iconst 5, 1) := by decide +kernel
theorem dL_law_104 : decode cL_law 104 = .ok (.iadd, 1) := by decide +kernel
theorem dL_law_105 : decode cL_law 105 = .ok (.iaload, 1) := by decide +kernel
theorem dL_law_106 : decode cL_law 106 = .ok (.invokevirtual 21, 3) := by decide +kernel
theorem dL_law_109 : decode cL_law 109 = .ok (.aload_n 2, 1) := by decide +kernel
theorem dL_law_110 : decode cL_law 110 = .ok (.aload_n 0, 1) := by decide +kernel
theorem dL_law_111 : decode cL_law 111 = .ok (.iload_n 3, 1) := by decide +kernel
theorem dL_law_112 : decode cL_law 112 = .ok (.iconst 1, 1) := by decide +kernel
theorem dL_law_113 : decode cL_law 113 = .ok (.iadd, 1) := by decide +kernel
theorem dL_law_114 : decode cL_law 114 = .ok (.iaload, 1) := by decide +kernel
theorem dL_law_115 : decode cL_law 115 = .ok (.aload_n 0, 1) := by decide +kernel
theorem dL_law_116 : decode cL_law 116 = .ok (.iload_n 3, 1) := by decide +kernel
theorem dL_law_117 : decode cL_law 117 = .ok (.iconst 2, 1) := by decide +kernel
theorem dL_law_118 : decode cL_law 118 = .ok (.iadd, 1) := by decide +kernel
theorem dL_law_119 : decode cL_law 119 = .ok (.iaload, 1) := by decide +kernel
theorem dL_law_120 : decode cL_law 120 = .ok (.aload_n 0, 1) := by decide +kernel
theorem dL_law_121 : decode cL_law 121 = .ok (.iload_n 3, 1) := by decide +kernel
theorem dL_law_122 : decode cL_law 122 = .ok (.iconst 3, 1) := by decide +kernel
theorem dL_law_123 : decode cL_law 123 = .ok (.iadd, 1) := by decide +kernel
theorem dL_law_124 : decode cL_law 124 = .ok (.iaload, 1) := by decide +kernel
theorem dL_law_125 : decode cL_law 125 = .ok (.aload_n 0, 1) := by decide +kernel
theorem dL_law_126 : decode cL_law 126 = .ok (.iload_n 3, 1) := by decide +kernel
theorem dL_law_127 : decode cL_law 127 = .ok (.iconst 4, 1) := by decide +kernel
theorem dL_law_128 : decode cL_law 128 = .ok (.iadd, 1) := by decide +kernel
theorem dL_law_129 : decode cL_law 129 = .ok (.iaload, 1) := by decide +kernel
theorem dL_law_130 : decode cL_law 130 = .ok (.aload_n 0, 1) := by decide +kernel
theorem dL_law_131 : decode cL_law 131 = .ok (.iload_n 3, 1) := by decide +kernel
theorem dL_law_132 : decode cL_law 132 = .ok (.iconst 5, 1) := by decide +kernel
theorem dL_law_133 : decode cL_law 133 = .ok (.iadd, 1) := by decide +kernel
theorem dL_law_134 : decode cL_law 134 = .ok (.iaload, 1) := by decide +kernel
theorem dL_law_135 : decode cL_law 135 = .ok (.invokevirtual 25, 3) := by decide +kernel
theorem dL_law_138 : decode cL_law 138 = .ok (.if_icmp .eq 141, 3) := by decide +kernel
theorem dL_law_141 : decode cL_law 141 = .ok (.iconst 0, 1) := by decide +kernel
theorem dL_law_142 : decode cL_law 142 = .ok (.ireturn, 1) := by decide +kernel
theorem dL_law_143 : decode cL_law 143 = .ok (.aload_n 1, 1) := by decide +kernel
theorem dL_law_144 : decode cL_law 144 = .ok (.aload_n 0, 1) := by decide +kernel
theorem dL_law_145 : decode cL_law 145 = .ok (.iload_n 3, 1) := by decide +kernel
theorem dL_law_146 : decode cL_law 146 = .ok (.iconst 1, 1) := by decide +kernel
theorem dL_law_147 : decode cL_law 147 = .ok (.iadd, 1) := by decide +kernel
theorem dL_law_148 : decode cL_law 148 = .ok (.iaload, 1) := by decide +kernel
theorem dL_law_149 : decode cL_law 149 = .ok (.i2l, 1) := by decide +kernel
theorem dL_law_150 : decode cL_law 150 = .ok (.bipush 32, 2) := by decide +kernel
theorem dL_law_152 : decode cL_law 152 = .ok (.lshl, 1) := by decide +kernel
theorem dL_law_153 : decode cL_law 153 = .ok (.aload_n 0, 1) := by decide +kernel
theorem dL_law_154 : decode cL_law 154 = .ok (.iload_n 3, 1) := by decide +kernel
theorem dL_law_155 : decode cL_law 155 = .ok (.iconst 2, 1) := by decide +kernel
theorem dL_law_156 : decode cL_law 156 = .ok (.iadd, 1) := by decide +kernel
theorem dL_law_157 : decode cL_law 157 = .ok (.iaload, 1) := by decide +kernel
theorem dL_law_158 : decode cL_law 158 = .ok (.i2l, 1) := by decide +kernel
theorem dL_law_159 : decode cL_law 159 = .ok (.ldc2_w 26, 3) := by decide +kernel
theorem dL_law_162 : decode cL_law 162 = .ok (.land, 1) := by decide +kernel
theorem dL_law_163 : decode cL_law 163 = .ok (.lor, 1) := by decide +kernel
theorem dL_law_164 : decode cL_law 164 = .ok (.invokevirtual 28, 3) := by decide +kernel
theorem dL_law_167 : decode cL_law 167 = .ok (.aload_n 2, 1) := by decide +kernel
theorem dL_law_168 : decode cL_law 168 = .ok (.aload_n 0, 1) := by decide +kernel
theorem dL_law_169 : decode cL_law 169 = .ok (.iload_n 3, 1) := by decide +kernel
theorem dL_law_170 : decode cL_law 170 = .ok (.iconst 1, 1) := by decide +kernel
theorem dL_law_171 : decode cL_law 171 = .ok (.iadd, 1) := by decide +kernel
theorem dL_law_172 : decode cL_law 172 = .ok (.iaload, 1) := by decide +kernel
theorem dL_law_173 : decode cL_law 173 = .ok (.i2l, 1) := by decide +kernel
theorem dL_law_174 : decode cL_law 174 = .ok (.bipush 32, 2) := by decide +kernel
theorem dL_law_176 : decode cL_law 176 = .ok (.lshl, 1) := by decide +kernel
theorem dL_law_177 : decode cL_law 177 = .ok (.aload_n 0, 1) := by decide +kernel
theorem dL_law_178 : decode cL_law 178 = .ok (.iload_n 3, 1) := by decide +kernel
theorem dL_law_179 : decode cL_law 179 = .ok (.iconst 2, 1) := by decide +kernel
theorem dL_law_180 : decode cL_law 180 = .ok (.iadd, 1) := by decide +kernel
theorem dL_law_181 : decode cL_law 181 = .ok (.iaload, 1) := by decide +kernel
theorem dL_law_182 : decode cL_law 182 = .ok (.i2l, 1) := by decide +kernel
theorem dL_law_183 : decode cL_law 183 = .ok (.ldc2_w 26, 3) := by decide +kernel
theorem dL_law_186 : decode cL_law 186 = .ok (.land, 1) := by decide +kernel
theorem dL_law_187 : decode cL_law 187 = .ok (.lor, 1) := by decide +kernel
theorem dL_law_188 : decode cL_law 188 = .ok (.invokevirtual 32, 3) := by decide +kernel
theorem dL_law_191 : decode cL_law 191 = .ok (.if_icmp .eq 88, 3) := by decide +kernel
theorem dL_law_194 : decode cL_law 194 = .ok (.iconst 0, 1) := by decide +kernel
theorem dL_law_195 : decode cL_law 195 = .ok (.ireturn, 1) := by decide +kernel
theorem dL_law_196 : decode cL_law 196 = .ok (.aload_n 1, 1) := by decide +kernel
theorem dL_law_197 : decode cL_law 197 = .ok (.aload_n 0, 1) := by decide +kernel
theorem dL_law_198 : decode cL_law 198 = .ok (.iload_n 3, 1) := by decide +kernel
theorem dL_law_199 : decode cL_law 199 = .ok (.iconst 1, 1) := by decide +kernel
theorem dL_law_200 : decode cL_law 200 = .ok (.iadd, 1) := by decide +kernel
theorem dL_law_201 : decode cL_law 201 = .ok (.iaload, 1) := by decide +kernel
theorem dL_law_202 : decode cL_law 202 = .ok (.aload_n 0, 1) := by decide +kernel
theorem dL_law_203 : decode cL_law 203 = .ok (.iload_n 3, 1) := by decide +kernel
theorem dL_law_204 : decode cL_law 204 = .ok (.iconst 2, 1) := by decide +kernel
theorem dL_law_205 : decode cL_law 205 = .ok (.iadd, 1) := by decide +kernel
theorem dL_law_206 : decode cL_law 206 = .ok (.iaload, 1) := by decide +kernel
theorem dL_law_207 : decode cL_law 207 = .ok (.invokevirtual 33, 3) := by decide +kernel
theorem dL_law_210 : decode cL_law 210 = .ok (.aload_n 2, 1) := by decide +kernel
theorem dL_law_211 : decode cL_law 211 = .ok (.aload_n 0, 1) := by decide +kernel
theorem dL_law_212 : decode cL_law 212 = .ok (.iload_n 3, 1) := by decide +kernel
theorem dL_law_213 : decode cL_law 213 = .ok (.iconst 1, 1) := by decide +kernel
theorem dL_law_214 : decode cL_law 214 = .ok (.iadd, 1) := by decide +kernel
theorem dL_law_215 : decode cL_law 215 = .ok (.iaload, 1) := by decide +kernel
theorem dL_law_216 : decode cL_law 216 = .ok (.aload_n 0, 1) := by decide +kernel
theorem dL_law_217 : decode cL_law 217 = .ok (.iload_n 3, 1) := by decide +kernel
theorem dL_law_218 : decode cL_law 218 = .ok (.iconst 2, 1) := by decide +kernel
theorem dL_law_219 : decode cL_law 219 = .ok (.iadd, 1) := by decide +kernel
theorem dL_law_220 : decode cL_law 220 = .ok (.iaload, 1) := by decide +kernel
theorem dL_law_221 : decode cL_law 221 = .ok (.invokevirtual 37, 3) := by decide +kernel
theorem dL_law_224 : decode cL_law 224 = .ok (.if_icmp .eq 55, 3) := by decide +kernel
theorem dL_law_227 : decode cL_law 227 = .ok (.iconst 0, 1) := by decide +kernel
theorem dL_law_228 : decode cL_law 228 = .ok (.ireturn, 1) := by decide +kernel
theorem dL_law_229 : decode cL_law 229 = .ok (.aload_n 1, 1) := by decide +kernel
theorem dL_law_230 : decode cL_law 230 = .ok (.invokevirtual 38, 3) := by decide +kernel
theorem dL_law_233 : decode cL_law 233 = .ok (.aload_n 2, 1) := by decide +kernel
theorem dL_law_234 : decode cL_law 234 = .ok (.invokevirtual 42, 3) := by decide +kernel
theorem dL_law_237 : decode cL_law 237 = .ok (.if_icmp .eq 42, 3) := by decide +kernel
theorem dL_law_240 : decode cL_law 240 = .ok (.iconst 0, 1) := by decide +kernel
theorem dL_law_241 : decode cL_law 241 = .ok (.ireturn, 1) := by decide +kernel
theorem dL_law_242 : decode cL_law 242 = .ok (.aload_n 1, 1) := by decide +kernel
theorem dL_law_243 : decode cL_law 243 = .ok (.invokevirtual 43, 3) := by decide +kernel
theorem dL_law_246 : decode cL_law 246 = .ok (.aload_n 2, 1) := by decide +kernel
theorem dL_law_247 : decode cL_law 247 = .ok (.invokevirtual 47, 3) := by decide +kernel
theorem dL_law_250 : decode cL_law 250 = .ok (.lcmp, 1) := by decide +kernel
theorem dL_law_251 : decode cL_law 251 = .ok (.ifCond .eq 28, 3) := by decide +kernel
theorem dL_law_254 : decode cL_law 254 = .ok (.iconst 0, 1) := by decide +kernel
theorem dL_law_255 : decode cL_law 255 = .ok (.ireturn, 1) := by decide +kernel
theorem dL_law_256 : decode cL_law 256 = .ok (.aload_n 1, 1) := by decide +kernel
theorem dL_law_257 : decode cL_law 257 = .ok (.aload_n 0, 1) := by decide +kernel
theorem dL_law_258 : decode cL_law 258 = .ok (.iload_n 3, 1) := by decide +kernel
theorem dL_law_259 : decode cL_law 259 = .ok (.iconst 1, 1) := by decide +kernel
theorem dL_law_260 : decode cL_law 260 = .ok (.iadd, 1) := by decide +kernel
theorem dL_law_261 : decode cL_law 261 = .ok (.iaload, 1) := by decide +kernel
theorem dL_law_262 : decode cL_law 262 = .ok (.invokevirtual 48, 3) := by decide +kernel
theorem dL_law_265 : decode cL_law 265 = .ok (.aload_n 2, 1) := by decide +kernel
theorem dL_law_266 : decode cL_law 266 = .ok (.aload_n 0, 1) := by decide +kernel
theorem dL_law_267 : decode cL_law 267 = .ok (.iload_n 3, 1) := by decide +kernel
theorem dL_law_268 : decode cL_law 268 = .ok (.iconst 1, 1) := by decide +kernel
theorem dL_law_269 : decode cL_law 269 = .ok (.iadd, 1) := by decide +kernel
theorem dL_law_270 : decode cL_law 270 = .ok (.iaload, 1) := by decide +kernel
theorem dL_law_271 : decode cL_law 271 = .ok (.invokevirtual 52, 3) := by decide +kernel
theorem dL_law_274 : decode cL_law 274 = .ok (.if_icmp .eq 5, 3) := by decide +kernel
theorem dL_law_277 : decode cL_law 277 = .ok (.iconst 0, 1) := by decide +kernel
theorem dL_law_278 : decode cL_law 278 = .ok (.ireturn, 1) := by decide +kernel
theorem dL_law_279 : decode cL_law 279 = .ok (.iinc 3 6, 3) := by decide +kernel
theorem dL_law_282 : decode cL_law 282 = .ok (.goto (-254), 3) := by decide +kernel
theorem dL_law_285 : decode cL_law 285 = .ok (.iconst 1, 1) := by decide +kernel
theorem dL_law_286 : decode cL_law 286 = .ok (.ireturn, 1) := by decide +kernel
