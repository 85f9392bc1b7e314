theorem dX11_applySign_0 : decode cX11_applySign 0 = .ok (.iload_n 1, 1) := by decide +kernel
theorem dX11_applySign_1 : decode cX11_applySign 1 = .ok (.bipush 19, 2) := by decide +kernel
theorem dX11_applySign_3 : decode cX11_applySign 3 = .ok (.if_icmp .ne 62, 3) := by decide +kernel
theorem dX11_applySign_6 : decode cX11_applySign 6 = .ok (.aload_n 0, 1) := by decide +kernel
theorem dX11_applySign_7 : decode cX11_applySign 7 = .ok (.getfield 214, 3) := by decide +kernel
theorem dX11_applySign_10 : decode cX11_applySign 10 = .ok (.ifCond .eq 17, 3) := by decide +kernel
theorem dX11_applySign_13 : decode cX11_applySign 13 = .ok (.aload_n 0, 1) := by decide +kernel
theorem dX11_applySign_14 : decode cX11_applySign 14 = .ok (.getfield 15, 3) := by decide +kernel
theorem dX11_applySign_17 : decode cX11_applySign 17 = .ok (.aload_n 0, 1) := by decide +kernel
theorem dX11_applySign_18 : decode cX11_applySign 18 = .ok (.getfield 214, 3) := by decide +kernel
theorem dX11_applySign_21 : decode cX11_applySign 21 = .ok (.invokevirtual 299, 3) := by decide +kernel
theorem dX11_applySign_24 : decode cX11_applySign 24 = .ok (.ifCond .eq 12, 3) := by decide +kernel
theorem dX11_applySign_27 : decode cX11_applySign 27 = .ok (.aload_n 0, 1) := by decide +kernel
theorem dX11_applySign_28 : decode cX11_applySign 28 = .ok (.getfield 9, 3) := by decide +kernel
theorem dX11_applySign_31 : decode cX11_applySign 31 = .ok (.iconst 4, 1) := by decide +kernel
theorem dX11_applySign_32 : decode cX11_applySign 32 = .ok (.iload_n 2, 1) := by decide +kernel
theorem dX11_applySign_33 : decode cX11_applySign 33 = .ok (.invokevirtual 106, 3) := by decide +kernel
theorem dX11_applySign_36 : decode cX11_applySign 36 = .ok (.aload_n 0, 1) := by decide +kernel
theorem dX11_applySign_37 : decode cX11_applySign 37 = .ok (.getfield 23, 3) := by decide +kernel
theorem dX11_applySign_40 : decode cX11_applySign 40 = .ok (.bipush 8, 2) := by decide +kernel
theorem dX11_applySign_42 : decode cX11_applySign 42 = .ok (.aload_n 0, 1) := by decide +kernel
theorem dX11_applySign_43 : decode cX11_applySign 43 = .ok (.getfield 214, 3) := by decide +kernel
theorem dX11_applySign_46 : decode cX11_applySign 46 = .ok (.invokevirtual 141, 3) := by decide +kernel
theorem dX11_applySign_49 : decode cX11_applySign 49 = .ok (.aload_n 0, 1) := by decide +kernel
theorem dX11_applySign_50 : decode cX11_applySign 50 = .ok (.aload_n 0, 1) := by decide +kernel
theorem dX11_applySign_51 : decode cX11_applySign 51 = .ok (.getfield 15, 3) := by decide +kernel
theorem dX11_applySign_54 : decode cX11_applySign 54 = .ok (.aload_n 0, 1) := by decide +kernel
theorem dX11_applySign_55 : decode cX11_applySign 55 = .ok (.getfield 214, 3) := by decide +kernel
theorem dX11_applySign_58 : decode cX11_applySign 58 = .ok (.invokevirtual 327, 3) := by decide +kernel
theorem dX11_applySign_61 : decode cX11_applySign 61 = .ok (.invokevirtual 311, 3) := by decide +kernel
theorem dX11_applySign_64 : decode cX11_applySign 64 = .ok (.return_, 1) := by decide +kernel
theorem dX11_applySign_65 : decode cX11_applySign 65 = .ok (.iload_n 1, 1) := by decide +kernel
theorem dX11_applySign_66 : decode cX11_applySign 66 = .ok (.bipush 33, 2) := by decide +kernel
theorem dX11_applySign_68 : decode cX11_applySign 68 = .ok (.if_icmp .ne 7, 3) := by decide +kernel
theorem dX11_applySign_71 : decode cX11_applySign 71 = .ok (.iconst 2, 1) := by decide +kernel
theorem dX11_applySign_72 : decode cX11_applySign 72 = .ok (.goto 4, 3) := by decide +kernel
theorem dX11_applySign_75 : decode cX11_applySign 75 = .ok (.iconst 1, 1) := by decide +kernel
theorem dX11_applySign_76 : decode cX11_applySign 76 = .ok (.istore_n 3, 1) := by decide +kernel
theorem dX11_applySign_77 : decode cX11_applySign 77 = .ok (.aload_n 0, 1) := by decide +kernel
theorem dX11_applySign_78 : decode cX11_applySign 78 = .ok (.getfield 214, 3) := by decide +kernel
theorem dX11_applySign_81 : decode cX11_applySign 81 = .ok (.iload_n 3, 1) := by decide +kernel
theorem dX11_applySign_82 : decode cX11_applySign 82 = .ok (.if_icmp .eq 12, 3) := by decide +kernel
theorem dX11_applySign_85 : decode cX11_applySign 85 = .ok (.aload_n 0, 1) := by decide +kernel
theorem dX11_applySign_86 : decode cX11_applySign 86 = .ok (.getfield 9, 3) := by decide +kernel
theorem dX11_applySign_89 : decode cX11_applySign 89 = .ok (.iconst 4, 1) := by decide +kernel
theorem dX11_applySign_90 : decode cX11_applySign 90 = .ok (.iload_n 2, 1) := by decide +kernel
theorem dX11_applySign_91 : decode cX11_applySign 91 = .ok (.invokevirtual 106, 3) := by decide +kernel
theorem dX11_applySign_94 : decode cX11_applySign 94 = .ok (.aload_n 0, 1) := by decide +kernel
theorem dX11_applySign_95 : decode cX11_applySign 95 = .ok (.getfield 23, 3) := by decide +kernel
theorem dX11_applySign_98 : decode cX11_applySign 98 = .ok (.iload_n 1, 1) := by decide +kernel
theorem dX11_applySign_99 : decode cX11_applySign 99 = .ok (.bipush 33, 2) := by decide +kernel
theorem dX11_applySign_101 : decode cX11_applySign 101 = .ok (.if_icmp .ne 8, 3) := by decide +kernel
theorem dX11_applySign_104 : decode cX11_applySign 104 = .ok (.bipush 6, 2) := by decide +kernel
theorem dX11_applySign_106 : decode cX11_applySign 106 = .ok (.goto 4, 3) := by decide +kernel
theorem dX11_applySign_109 : decode cX11_applySign 109 = .ok (.iconst 5, 1) := by decide +kernel
theorem dX11_applySign_110 : decode cX11_applySign 110 = .ok (.iconst 0, 1) := by decide +kernel
theorem dX11_applySign_111 : decode cX11_applySign 111 = .ok (.invokevirtual 141, 3) := by decide +kernel
theorem dX11_applySign_114 : decode cX11_applySign 114 = .ok (.aload_n 0, 1) := by decide +kernel
theorem dX11_applySign_115 : decode cX11_applySign 115 = .ok (.iload_n 3, 1) := by decide +kernel
theorem dX11_applySign_116 : decode cX11_applySign 116 = .ok (.invokevirtual 311, 3) := by decide +kernel
theorem dX11_applySign_119 : decode cX11_applySign 119 = .ok (.return_, 1) := by decide +kernel
theorem dX11_arm_0 : decode cX11_arm 0 = .ok (.aload_n 0, 1) := by decide +kernel
theorem dX11_arm_1 : decode cX11_arm 1 = .ok (.getfield 15, 3) := by decide +kernel
theorem dX11_arm_4 : decode cX11_arm 4 = .ok (.iload_n 1, 1) := by decide +kernel
theorem dX11_arm_5 : decode cX11_arm 5 = .ok (.iconst 4, 1) := by decide +kernel
theorem dX11_arm_6 : decode cX11_arm 6 = .ok (.isub, 1) := by decide +kernel
theorem dX11_arm_7 : decode cX11_arm 7 = .ok (.iload_n 2, 1) := by decide +kernel
theorem dX11_arm_8 : decode cX11_arm 8 = .ok (.invokevirtual 240, 3) := by decide +kernel
theorem dX11_arm_11 : decode cX11_arm 11 = .ok (.istore 6, 2) := by decide +kernel
theorem dX11_arm_13 : decode cX11_arm 13 = .ok (.aload_n 0, 1) := by decide +kernel
theorem dX11_arm_14 : decode cX11_arm 14 = .ok (.getfield 47, 3) := by decide +kernel
theorem dX11_arm_17 : decode cX11_arm 17 = .ok (.getfield 132, 3) := by decide +kernel
theorem dX11_arm_20 : decode cX11_arm 20 = .ok (.istore 7, 2) := by decide +kernel
theorem dX11_arm_22 : decode cX11_arm 22 = .ok (.aload_n 0, 1) := by decide +kernel
theorem dX11_arm_23 : decode cX11_arm 23 = .ok (.getfield 9, 3) := by decide +kernel
theorem dX11_arm_26 : decode cX11_arm 26 = .ok (.invokevirtual 138, 3) := by decide +kernel
theorem dX11_arm_29 : decode cX11_arm 29 = .ok (.istore 8, 2) := by decide +kernel
theorem dX11_arm_31 : decode cX11_arm 31 = .ok (.aload_n 0, 1) := by decide +kernel
theorem dX11_arm_32 : decode cX11_arm 32 = .ok (.getfield 9, 3) := by decide +kernel
theorem dX11_arm_35 : decode cX11_arm 35 = .ok (.iconst 1, 1) := by decide +kernel
theorem dX11_arm_36 : decode cX11_arm 36 = .ok (.invokevirtual 120, 3) := by decide +kernel
theorem dX11_arm_39 : decode cX11_arm 39 = .ok (.aload_n 0, 1) := by decide +kernel
theorem dX11_arm_40 : decode cX11_arm 40 = .ok (.getfield 9, 3) := by decide +kernel
theorem dX11_arm_43 : decode cX11_arm 43 = .ok (.invokevirtual 124, 3) := by decide +kernel
theorem dX11_arm_46 : decode cX11_arm 46 = .ok (.bipush 40, 2) := by decide +kernel
theorem dX11_arm_48 : decode cX11_arm 48 = .ok (.if_icmp .ne 21, 3) := by decide +kernel
theorem dX11_arm_51 : decode cX11_arm 51 = .ok (.aload_n 0, 1) := by decide +kernel
theorem dX11_arm_52 : decode cX11_arm 52 = .ok (.getfield 9, 3) := by decide +kernel
theorem dX11_arm_55 : decode cX11_arm 55 = .ok (.getfield 181, 3) := by decide +kernel
theorem dX11_arm_58 : decode cX11_arm 58 = .ok (.aload_n 0, 1) := by decide +kernel
theorem dX11_arm_59 : decode cX11_arm 59 = .ok (.getfield 9, 3) := by decide +kernel
theorem dX11_arm_62 : decode cX11_arm 62 = .ok (.getfield 93, 3) := by decide +kernel
theorem dX11_arm_65 : decode cX11_arm 65 = .ok (.iaload, 1) := by decide +kernel
theorem dX11_arm_66 : decode cX11_arm 66 = .ok (.goto 4, 3) := by decide +kernel
theorem dX11_arm_69 : decode cX11_arm 69 = .ok (.iconst 0, 1) := by decide +kernel
theorem dX11_arm_70 : decode cX11_arm 70 = .ok (.istore 9, 2) := by decide +kernel
theorem dX11_arm_72 : decode cX11_arm 72 = .ok (.iload 9, 2) := by decide +kernel
theorem dX11_arm_74 : decode cX11_arm 74 = .ok (.aload_n 0, 1) := by decide +kernel
theorem dX11_arm_75 : decode cX11_arm 75 = .ok (.getfield 15, 3) := by decide +kernel
theorem dX11_arm_78 : decode cX11_arm 78 = .ok (.getfield 243, 3) := by decide +kernel
theorem dX11_arm_81 : decode cX11_arm 81 = .ok (.iload 6, 2) := by decide +kernel
theorem dX11_arm_83 : decode cX11_arm 83 = .ok (.iaload, 1) := by decide +kernel
theorem dX11_arm_84 : decode cX11_arm 84 = .ok (.if_icmp .eq 15, 3) := by decide +kernel
theorem dX11_arm_87 : decode cX11_arm 87 = .ok (.aload_n 0, 1) := by decide +kernel
theorem dX11_arm_88 : decode cX11_arm 88 = .ok (.getfield 9, 3) := by decide +kernel
theorem dX11_arm_91 : decode cX11_arm 91 = .ok (.iconst 4, 1) := by decide +kernel
theorem dX11_arm_92 : decode cX11_arm 92 = .ok (.iload 8, 2) := by decide +kernel
theorem dX11_arm_94 : decode cX11_arm 94 = .ok (.invokevirtual 106, 3) := by decide +kernel
theorem dX11_arm_97 : decode cX11_arm 97 = .ok (.iconst 0, 1) := by decide +kernel
theorem dX11_arm_98 : decode cX11_arm 98 = .ok (.ireturn, 1) := by decide +kernel
theorem dX11_arm_99 : decode cX11_arm 99 = .ok (.iconst 0, 1) := by decide +kernel
theorem dX11_arm_100 : decode cX11_arm 100 = .ok (.istore 10, 2) := by decide +kernel
theorem dX11_arm_102 : decode cX11_arm 102 = .ok (.iload 10, 2) := by decide +kernel
theorem dX11_arm_104 : decode cX11_arm 104 = .ok (.iload 9, 2) := by decide +kernel
theorem dX11_arm_106 : decode cX11_arm 106 = .ok (.if_icmp .ge 41, 3) := by decide +kernel
theorem dX11_arm_109 : decode cX11_arm 109 = .ok (.aload_n 0, 1) := by decide +kernel
theorem dX11_arm_110 : decode cX11_arm 110 = .ok (.getfield 9, 3) := by decide +kernel
theorem dX11_arm_113 : decode cX11_arm 113 = .ok (.iconst 1, 1) := by decide +kernel
theorem dX11_arm_114 : decode cX11_arm 114 = .ok (.invokevirtual 120, 3) := by decide +kernel
theorem dX11_arm_117 : decode cX11_arm 117 = .ok (.aload_n 0, 1) := by decide +kernel
theorem dX11_arm_118 : decode cX11_arm 118 = .ok (.iload 6, 2) := by decide +kernel
theorem dX11_arm_120 : decode cX11_arm 120 = .ok (.bipush 12, 2) := by decide +kernel
theorem dX11_arm_122 : decode cX11_arm 122 = .ok (.imul, 1) := by decide +kernel
theorem dX11_arm_123 : decode cX11_arm 123 = .ok (.iload 10, 2) := by decide +kernel
theorem dX11_arm_125 : decode cX11_arm 125 = .ok (.iadd, 1) := by decide +kernel
theorem dX11_arm_126 : decode cX11_arm 126 = .ok (.iload_n 1, 1) := by decide +kernel
theorem dX11_arm_127 : decode cX11_arm 127 = .ok (.iload_n 3, 1) := by decide +kernel
theorem dX11_arm_128 : decode cX11_arm 128 = .ok (.iload 4, 2) := by decide +kernel
theorem dX11_arm_130 : decode cX11_arm 130 = .ok (.invokevirtual 246, 3) := by decide +kernel
theorem dX11_arm_133 : decode cX11_arm 133 = .ok (.aload_n 0, 1) := by decide +kernel
theorem dX11_arm_134 : decode cX11_arm 134 = .ok (.getfield 9, 3) := by decide +kernel
theorem dX11_arm_137 : decode cX11_arm 137 = .ok (.iconst 1, 1) := by decide +kernel
theorem dX11_arm_138 : decode cX11_arm 138 = .ok (.invokevirtual 120, 3) := by decide +kernel
theorem dX11_arm_141 : decode cX11_arm 141 = .ok (.iinc 10 1, 3) := by decide +kernel
theorem dX11_arm_144 : decode cX11_arm 144 = .ok (.goto (-42), 3) := by decide +kernel
theorem dX11_arm_147 : decode cX11_arm 147 = .ok (.iload 9, 2) := by decide +kernel
theorem dX11_arm_149 : decode cX11_arm 149 = .ok (.ifCond .le 11, 3) := by decide +kernel
theorem dX11_arm_152 : decode cX11_arm 152 = .ok (.aload_n 0, 1) := by decide +kernel
theorem dX11_arm_153 : decode cX11_arm 153 = .ok (.getfield 9, 3) := by decide +kernel
theorem dX11_arm_156 : decode cX11_arm 156 = .ok (.iconst 1, 1) := by decide +kernel
theorem dX11_arm_157 : decode cX11_arm 157 = .ok (.invokevirtual 120, 3) := by decide +kernel
theorem dX11_arm_160 : decode cX11_arm 160 = .ok (.aload_n 0, 1) := by decide +kernel
theorem dX11_arm_161 : decode cX11_arm 161 = .ok (.getfield 23, 3) := by decide +kernel
theorem dX11_arm_164 : decode cX11_arm 164 = .ok (.bipush 31, 2) := by decide +kernel
theorem dX11_arm_166 : decode cX11_arm 166 = .ok (.iload_n 3, 1) := by decide +kernel
theorem dX11_arm_167 : decode cX11_arm 167 = .ok (.ifCond .ge 15, 3) := by decide +kernel
theorem dX11_arm_170 : decode cX11_arm 170 = .ok (.aload_n 0, 1) := by decide +kernel
theorem dX11_arm_171 : decode cX11_arm 171 = .ok (.getfield 15, 3) := by decide +kernel
theorem dX11_arm_174 : decode cX11_arm 174 = .ok (.getfield 63, 3) := by decide +kernel
theorem dX11_arm_177 : decode cX11_arm 177 = .ok (.iload_n 1, 1) := by decide +kernel
theorem dX11_arm_178 : decode cX11_arm 178 = .ok (.iaload, 1) := by decide +kernel
theorem dX11_arm_179 : decode cX11_arm 179 = .ok (.goto 4, 3) := by decide +kernel
theorem dX11_arm_182 : decode cX11_arm 182 = .ok (.iconst 1, 1) := by decide +kernel
theorem dX11_arm_183 : decode cX11_arm 183 = .ok (.invokevirtual 141, 3) := by decide +kernel
theorem dX11_arm_186 : decode cX11_arm 186 = .ok (.aload_n 0, 1) := by decide +kernel
theorem dX11_arm_187 : decode cX11_arm 187 = .ok (.getfield 9, 3) := by decide +kernel
theorem dX11_arm_190 : decode cX11_arm 190 = .ok (.iconst 1, 1) := by decide +kernel
theorem dX11_arm_191 : decode cX11_arm 191 = .ok (.invokevirtual 120, 3) := by decide +kernel
theorem dX11_arm_194 : decode cX11_arm 194 = .ok (.aload_n 0, 1) := by decide +kernel
theorem dX11_arm_195 : decode cX11_arm 195 = .ok (.iload 7, 2) := by decide +kernel
theorem dX11_arm_197 : decode cX11_arm 197 = .ok (.iload 5, 2) := by decide +kernel
theorem dX11_arm_199 : decode cX11_arm 199 = .ok (.invokevirtual 96, 3) := by decide +kernel
theorem dX11_arm_202 : decode cX11_arm 202 = .ok (.ireturn, 1) := by decide +kernel
theorem dX11_arms_0 : decode cX11_arms 0 = .ok (.iload_n 1, 1) := by decide +kernel
theorem dX11_arms_1 : decode cX11_arms 1 = .ok (.iconst 4, 1) := by decide +kernel
theorem dX11_arms_2 : decode cX11_arms 2 = .ok (.isub, 1) := by decide +kernel
theorem dX11_arms_3 : decode cX11_arms 3 = .ok (.istore 6, 2) := by decide +kernel
theorem dX11_arms_5 : decode cX11_arms 5 = .ok (.aload_n 0, 1) := by decide +kernel
theorem dX11_arms_6 : decode cX11_arms 6 = .ok (.getfield 15, 3) := by decide +kernel
theorem dX11_arms_9 : decode cX11_arms 9 = .ok (.getfield 224, 3) := by decide +kernel
theorem dX11_arms_12 : decode cX11_arms 12 = .ok (.iload 6, 2) := by decide +kernel
theorem dX11_arms_14 : decode cX11_arms 14 = .ok (.iaload, 1) := by decide +kernel
theorem dX11_arms_15 : decode cX11_arms 15 = .ok (.istore 7, 2) := by decide +kernel
theorem dX11_arms_17 : decode cX11_arms 17 = .ok (.aload_n 0, 1) := by decide +kernel
theorem dX11_arms_18 : decode cX11_arms 18 = .ok (.getfield 23, 3) := by decide +kernel
theorem dX11_arms_21 : decode cX11_arms 21 = .ok (.iload 7, 2) := by decide +kernel
theorem dX11_arms_23 : decode cX11_arms 23 = .ok (.invokevirtual 227, 3) := by decide +kernel
theorem dX11_arms_26 : decode cX11_arms 26 = .ok (.istore 8, 2) := by decide +kernel
theorem dX11_arms_28 : decode cX11_arms 28 = .ok (.aload_n 0, 1) := by decide +kernel
theorem dX11_arms_29 : decode cX11_arms 29 = .ok (.getfield 23, 3) := by decide +kernel
theorem dX11_arms_32 : decode cX11_arms 32 = .ok (.invokevirtual 203, 3) := by decide +kernel
theorem dX11_arms_35 : decode cX11_arms 35 = .ok (.istore 9, 2) := by decide +kernel
theorem dX11_arms_37 : decode cX11_arms 37 = .ok (.iconst 0, 1) := by decide +kernel
theorem dX11_arms_38 : decode cX11_arms 38 = .ok (.istore 10, 2) := by decide +kernel
theorem dX11_arms_40 : decode cX11_arms 40 = .ok (.iconst 1, 1) := by decide +kernel
theorem dX11_arms_41 : decode cX11_arms 41 = .ok (.istore 11, 2) := by decide +kernel
theorem dX11_arms_43 : decode cX11_arms 43 = .ok (.aload_n 0, 1) := by decide +kernel
theorem dX11_arms_44 : decode cX11_arms 44 = .ok (.getfield 23, 3) := by decide +kernel
theorem dX11_arms_47 : decode cX11_arms 47 = .ok (.bipush 20, 2) := by decide +kernel
theorem dX11_arms_49 : decode cX11_arms 49 = .ok (.iload 8, 2) := by decide +kernel
theorem dX11_arms_51 : decode cX11_arms 51 = .ok (.iload_n 2, 1) := by decide +kernel
theorem dX11_arms_52 : decode cX11_arms 52 = .ok (.ifCond .ge 15, 3) := by decide +kernel
theorem dX11_arms_55 : decode cX11_arms 55 = .ok (.aload_n 0, 1) := by decide +kernel
theorem dX11_arms_56 : decode cX11_arms 56 = .ok (.getfield 15, 3) := by decide +kernel
theorem dX11_arms_59 : decode cX11_arms 59 = .ok (.getfield 63, 3) := by decide +kernel
theorem dX11_arms_62 : decode cX11_arms 62 = .ok (.iload_n 1, 1) := by decide +kernel
theorem dX11_arms_63 : decode cX11_arms 63 = .ok (.iaload, 1) := by decide +kernel
theorem dX11_arms_64 : decode cX11_arms 64 = .ok (.goto 4, 3) := by decide +kernel
theorem dX11_arms_67 : decode cX11_arms 67 = .ok (.iconst 0, 1) := by decide +kernel
theorem dX11_arms_68 : decode cX11_arms 68 = .ok (.iload 7, 2) := by decide +kernel
theorem dX11_arms_70 : decode cX11_arms 70 = .ok (.iconst (-1), 1) := by decide +kernel
theorem dX11_arms_71 : decode cX11_arms 71 = .ok (.invokevirtual 110, 3) := by decide +kernel
theorem dX11_arms_74 : decode cX11_arms 74 = .ok (.iconst 0, 1) := by decide +kernel
theorem dX11_arms_75 : decode cX11_arms 75 = .ok (.istore 12, 2) := by decide +kernel
theorem dX11_arms_77 : decode cX11_arms 77 = .ok (.iload 12, 2) := by decide +kernel
theorem dX11_arms_79 : decode cX11_arms 79 = .ok (.sipush 3002, 3) := by decide +kernel
theorem dX11_arms_82 : decode cX11_arms 82 = .ok (.if_icmp .ge 171, 3) := by decide +kernel
theorem dX11_arms_85 : decode cX11_arms 85 = .ok (.aload_n 0, 1) := by decide +kernel
theorem dX11_arms_86 : decode cX11_arms 86 = .ok (.getfield 9, 3) := by decide +kernel
theorem dX11_arms_89 : decode cX11_arms 89 = .ok (.invokevirtual 124, 3) := by decide +kernel
theorem dX11_arms_92 : decode cX11_arms 92 = .ok (.iconst 2, 1) := by decide +kernel
theorem dX11_arms_93 : decode cX11_arms 93 = .ok (.if_icmp .ne 160, 3) := by decide +kernel
theorem dX11_arms_96 : decode cX11_arms 96 = .ok (.aload_n 0, 1) := by decide +kernel
theorem dX11_arms_97 : decode cX11_arms 97 = .ok (.getfield 15, 3) := by decide +kernel
theorem dX11_arms_100 : decode cX11_arms 100 = .ok (.iload 6, 2) := by decide +kernel
theorem dX11_arms_102 : decode cX11_arms 102 = .ok (.aload_n 0, 1) := by decide +kernel
theorem dX11_arms_103 : decode cX11_arms 103 = .ok (.getfield 9, 3) := by decide +kernel
theorem dX11_arms_106 : decode cX11_arms 106 = .ok (.getfield 167, 3) := by decide +kernel
theorem dX11_arms_109 : decode cX11_arms 109 = .ok (.aload_n 0, 1) := by decide +kernel
theorem dX11_arms_110 : decode cX11_arms 110 = .ok (.getfield 9, 3) := by decide +kernel
theorem dX11_arms_113 : decode cX11_arms 113 = .ok (.getfield 93, 3) := by decide +kernel
theorem dX11_arms_116 : decode cX11_arms 116 = .ok (.iaload, 1) := by decide +kernel
theorem dX11_arms_117 : decode cX11_arms 117 = .ok (.invokevirtual 230, 3) := by decide +kernel
theorem dX11_arms_120 : decode cX11_arms 120 = .ok (.istore 13, 2) := by decide +kernel
theorem dX11_arms_122 : decode cX11_arms 122 = .ok (.iload 13, 2) := by decide +kernel
theorem dX11_arms_124 : decode cX11_arms 124 = .ok (.ifCond .lt 14, 3) := by decide +kernel
theorem dX11_arms_127 : decode cX11_arms 127 = .ok (.iload 10, 2) := by decide +kernel
theorem dX11_arms_129 : decode cX11_arms 129 = .ok (.iload 13, 2) := by decide +kernel
theorem dX11_arms_131 : decode cX11_arms 131 = .ok (.ishr, 1) := by decide +kernel
theorem dX11_arms_132 : decode cX11_arms 132 = .ok (.iconst 1, 1) := by decide +kernel
theorem dX11_arms_133 : decode cX11_arms 133 = .ok (.iand, 1) := by decide +kernel
theorem dX11_arms_134 : decode cX11_arms 134 = .ok (.iconst 1, 1) := by decide +kernel
theorem dX11_arms_135 : decode cX11_arms 135 = .ok (.if_icmp .ne 20, 3) := by decide +kernel
theorem dX11_arms_138 : decode cX11_arms 138 = .ok (.aload_n 0, 1) := by decide +kernel
theorem dX11_arms_139 : decode cX11_arms 139 = .ok (.getfield 9, 3) := by decide +kernel
theorem dX11_arms_142 : decode cX11_arms 142 = .ok (.iconst 3, 1) := by decide +kernel
theorem dX11_arms_143 : decode cX11_arms 143 = .ok (.aload_n 0, 1) := by decide +kernel
theorem dX11_arms_144 : decode cX11_arms 144 = .ok (.getfield 9, 3) := by decide +kernel
theorem dX11_arms_147 : decode cX11_arms 147 = .ok (.invokevirtual 138, 3) := by decide +kernel
theorem dX11_arms_150 : decode cX11_arms 150 = .ok (.invokevirtual 106, 3) := by decide +kernel
theorem dX11_arms_153 : decode cX11_arms 153 = .ok (.iconst 0, 1) := by decide +kernel
theorem dX11_arms_154 : decode cX11_arms 154 = .ok (.ireturn, 1) := by decide +kernel
theorem dX11_arms_155 : decode cX11_arms 155 = .ok (.iload 10, 2) := by decide +kernel
theorem dX11_arms_157 : decode cX11_arms 157 = .ok (.iconst 1, 1) := by decide +kernel
theorem dX11_arms_158 : decode cX11_arms 158 = .ok (.iload 13, 2) := by decide +kernel
theorem dX11_arms_160 : decode cX11_arms 160 = .ok (.ishl, 1) := by decide +kernel
theorem dX11_arms_161 : decode cX11_arms 161 = .ok (.ior, 1) := by decide +kernel
theorem dX11_arms_162 : decode cX11_arms 162 = .ok (.istore 10, 2) := by decide +kernel
theorem dX11_arms_164 : decode cX11_arms 164 = .ok (.aload_n 0, 1) := by decide +kernel
theorem dX11_arms_165 : decode cX11_arms 165 = .ok (.getfield 23, 3) := by decide +kernel
theorem dX11_arms_168 : decode cX11_arms 168 = .ok (.getfield 233, 3) := by decide +kernel
theorem dX11_arms_171 : decode cX11_arms 171 = .ok (.iload 8, 2) := by decide +kernel
theorem dX11_arms_173 : decode cX11_arms 173 = .ok (.iload 13, 2) := by decide +kernel
theorem dX11_arms_175 : decode cX11_arms 175 = .ok (.iadd, 1) := by decide +kernel
theorem dX11_arms_176 : decode cX11_arms 176 = .ok (.aload_n 0, 1) := by decide +kernel
theorem dX11_arms_177 : decode cX11_arms 177 = .ok (.getfield 23, 3) := by decide +kernel
theorem dX11_arms_180 : decode cX11_arms 180 = .ok (.invokevirtual 203, 3) := by decide +kernel
theorem dX11_arms_183 : decode cX11_arms 183 = .ok (.iastore, 1) := by decide +kernel
theorem dX11_arms_184 : decode cX11_arms 184 = .ok (.aload_n 0, 1) := by decide +kernel
theorem dX11_arms_185 : decode cX11_arms 185 = .ok (.getfield 23, 3) := by decide +kernel
theorem dX11_arms_188 : decode cX11_arms 188 = .ok (.bipush 13, 2) := by decide +kernel
theorem dX11_arms_190 : decode cX11_arms 190 = .ok (.aload_n 0, 1) := by decide +kernel
theorem dX11_arms_191 : decode cX11_arms 191 = .ok (.getfield 23, 3) := by decide +kernel
theorem dX11_arms_194 : decode cX11_arms 194 = .ok (.getfield 233, 3) := by decide +kernel
theorem dX11_arms_197 : decode cX11_arms 197 = .ok (.iload 8, 2) := by decide +kernel
theorem dX11_arms_199 : decode cX11_arms 199 = .ok (.iload 13, 2) := by decide +kernel
theorem dX11_arms_201 : decode cX11_arms 201 = .ok (.iadd, 1) := by decide +kernel
theorem dX11_arms_202 : decode cX11_arms 202 = .ok (.iaload, 1) := by decide +kernel
theorem dX11_arms_203 : decode cX11_arms 203 = .ok (.invokevirtual 209, 3) := by decide +kernel
theorem dX11_arms_206 : decode cX11_arms 206 = .ok (.aload_n 0, 1) := by decide +kernel
theorem dX11_arms_207 : decode cX11_arms 207 = .ok (.iload_n 1, 1) := by decide +kernel
theorem dX11_arms_208 : decode cX11_arms 208 = .ok (.iload 13, 2) := by decide +kernel
theorem dX11_arms_210 : decode cX11_arms 210 = .ok (.iload_n 2, 1) := by decide +kernel
theorem dX11_arms_211 : decode cX11_arms 211 = .ok (.iload_n 3, 1) := by decide +kernel
theorem dX11_arms_212 : decode cX11_arms 212 = .ok (.iload 5, 2) := by decide +kernel
theorem dX11_arms_214 : decode cX11_arms 214 = .ok (.invokevirtual 236, 3) := by decide +kernel
theorem dX11_arms_217 : decode cX11_arms 217 = .ok (.istore 14, 2) := by decide +kernel
theorem dX11_arms_219 : decode cX11_arms 219 = .ok (.iload 11, 2) := by decide +kernel
theorem dX11_arms_221 : decode cX11_arms 221 = .ok (.ifCond .eq 12, 3) := by decide +kernel
theorem dX11_arms_224 : decode cX11_arms 224 = .ok (.iload 14, 2) := by decide +kernel
theorem dX11_arms_226 : decode cX11_arms 226 = .ok (.ifCond .eq 7, 3) := by decide +kernel
theorem dX11_arms_229 : decode cX11_arms 229 = .ok (.iconst 1, 1) := by decide +kernel
theorem dX11_arms_230 : decode cX11_arms 230 = .ok (.goto 4, 3) := by decide +kernel
theorem dX11_arms_233 : decode cX11_arms 233 = .ok (.iconst 0, 1) := by decide +kernel
theorem dX11_arms_234 : decode cX11_arms 234 = .ok (.istore 11, 2) := by decide +kernel
theorem dX11_arms_236 : decode cX11_arms 236 = .ok (.aload_n 0, 1) := by decide +kernel
theorem dX11_arms_237 : decode cX11_arms 237 = .ok (.getfield 23, 3) := by decide +kernel
theorem dX11_arms_240 : decode cX11_arms 240 = .ok (.bipush 16, 2) := by decide +kernel
theorem dX11_arms_242 : decode cX11_arms 242 = .ok (.iload 9, 2) := by decide +kernel
theorem dX11_arms_244 : decode cX11_arms 244 = .ok (.invokevirtual 141, 3) := by decide +kernel
theorem dX11_arms_247 : decode cX11_arms 247 = .ok (.iinc 12 1, 3) := by decide +kernel
theorem dX11_arms_250 : decode cX11_arms 250 = .ok (.goto (-173), 3) := by decide +kernel
theorem dX11_arms_253 : decode cX11_arms 253 = .ok (.iload 10, 2) := by decide +kernel
theorem dX11_arms_255 : decode cX11_arms 255 = .ok (.iconst 1, 1) := by decide +kernel
theorem dX11_arms_256 : decode cX11_arms 256 = .ok (.iload 7, 2) := by decide +kernel
theorem dX11_arms_258 : decode cX11_arms 258 = .ok (.ishl, 1) := by decide +kernel
theorem dX11_arms_259 : decode cX11_arms 259 = .ok (.iconst 1, 1) := by decide +kernel
theorem dX11_arms_260 : decode cX11_arms 260 = .ok (.isub, 1) := by decide +kernel
theorem dX11_arms_261 : decode cX11_arms 261 = .ok (.if_icmp .eq 13, 3) := by decide +kernel
theorem dX11_arms_264 : decode cX11_arms 264 = .ok (.aload_n 0, 1) := by decide +kernel
theorem dX11_arms_265 : decode cX11_arms 265 = .ok (.getfield 9, 3) := by decide +kernel
theorem dX11_arms_268 : decode cX11_arms 268 = .ok (.iconst 4, 1) := by decide +kernel
theorem dX11_arms_269 : decode cX11_arms 269 = .ok (.iload 4, 2) := by decide +kernel
theorem dX11_arms_271 : decode cX11_arms 271 = .ok (.invokevirtual 106, 3) := by decide +kernel
theorem dX11_arms_274 : decode cX11_arms 274 = .ok (.aload_n 0, 1) := by decide +kernel
theorem dX11_arms_275 : decode cX11_arms 275 = .ok (.getfield 23, 3) := by decide +kernel
theorem dX11_arms_278 : decode cX11_arms 278 = .ok (.bipush 13, 2) := by decide +kernel
theorem dX11_arms_280 : decode cX11_arms 280 = .ok (.iload 9, 2) := by decide +kernel
theorem dX11_arms_282 : decode cX11_arms 282 = .ok (.invokevirtual 209, 3) := by decide +kernel
theorem dX11_arms_285 : decode cX11_arms 285 = .ok (.iload 11, 2) := by decide +kernel
theorem dX11_arms_287 : decode cX11_arms 287 = .ok (.ireturn, 1) := by decide +kernel
theorem dX11_assign_0 : decode cX11_assign 0 = .ok (.iload_n 1, 1) := by decide +kernel
theorem dX11_assign_1 : decode cX11_assign 1 = .ok (.aload_n 0, 1) := by decide +kernel
theorem dX11_assign_2 : decode cX11_assign 2 = .ok (.getfield 214, 3) := by decide +kernel
theorem dX11_assign_5 : decode cX11_assign 5 = .ok (.if_icmp .eq 15, 3) := by decide +kernel
theorem dX11_assign_8 : decode cX11_assign 8 = .ok (.aload_n 0, 1) := by decide +kernel
theorem dX11_assign_9 : decode cX11_assign 9 = .ok (.getfield 9, 3) := by decide +kernel
theorem dX11_assign_12 : decode cX11_assign 12 = .ok (.iconst 4, 1) := by decide +kernel
theorem dX11_assign_13 : decode cX11_assign 13 = .ok (.iload_n 2, 1) := by decide +kernel
theorem dX11_assign_14 : decode cX11_assign 14 = .ok (.invokevirtual 106, 3) := by decide +kernel
theorem dX11_assign_17 : decode cX11_assign 17 = .ok (.goto 29, 3) := by decide +kernel
theorem dX11_assign_20 : decode cX11_assign 20 = .ok (.aload_n 0, 1) := by decide +kernel
theorem dX11_assign_21 : decode cX11_assign 21 = .ok (.getfield 263, 3) := by decide +kernel
theorem dX11_assign_24 : decode cX11_assign 24 = .ok (.ifCond .le 22, 3) := by decide +kernel
theorem dX11_assign_27 : decode cX11_assign 27 = .ok (.aload_n 0, 1) := by decide +kernel
theorem dX11_assign_28 : decode cX11_assign 28 = .ok (.getfield 266, 3) := by decide +kernel
theorem dX11_assign_31 : decode cX11_assign 31 = .ok (.ifCond .ne 15, 3) := by decide +kernel
theorem dX11_assign_34 : decode cX11_assign 34 = .ok (.aload_n 0, 1) := by decide +kernel
theorem dX11_assign_35 : decode cX11_assign 35 = .ok (.getfield 9, 3) := by decide +kernel
theorem dX11_assign_38 : decode cX11_assign 38 = .ok (.iconst 4, 1) := by decide +kernel
theorem dX11_assign_39 : decode cX11_assign 39 = .ok (.aload_n 0, 1) := by decide +kernel
theorem dX11_assign_40 : decode cX11_assign 40 = .ok (.getfield 270, 3) := by decide +kernel
theorem dX11_assign_43 : decode cX11_assign 43 = .ok (.invokevirtual 106, 3) := by decide +kernel
theorem dX11_assign_46 : decode cX11_assign 46 = .ok (.aload_n 0, 1) := by decide +kernel
theorem dX11_assign_47 : decode cX11_assign 47 = .ok (.getfield 23, 3) := by decide +kernel
theorem dX11_assign_50 : decode cX11_assign 50 = .ok (.bipush 26, 2) := by decide +kernel
theorem dX11_assign_52 : decode cX11_assign 52 = .ok (.aload_n 0, 1) := by decide +kernel
theorem dX11_assign_53 : decode cX11_assign 53 = .ok (.getfield 23, 3) := by decide +kernel
theorem dX11_assign_56 : decode cX11_assign 56 = .ok (.aload_n 0, 1) := by decide +kernel
theorem dX11_assign_57 : decode cX11_assign 57 = .ok (.getfield 272, 3) := by decide +kernel
theorem dX11_assign_60 : decode cX11_assign 60 = .ok (.aload_n 0, 1) := by decide +kernel
theorem dX11_assign_61 : decode cX11_assign 61 = .ok (.getfield 275, 3) := by decide +kernel
theorem dX11_assign_64 : decode cX11_assign 64 = .ok (.aload_n 0, 1) := by decide +kernel
theorem dX11_assign_65 : decode cX11_assign 65 = .ok (.getfield 263, 3) := by decide +kernel
theorem dX11_assign_68 : decode cX11_assign 68 = .ok (.aload_n 0, 1) := by decide +kernel
theorem dX11_assign_69 : decode cX11_assign 69 = .ok (.getfield 278, 3) := by decide +kernel
theorem dX11_assign_72 : decode cX11_assign 72 = .ok (.aload_n 0, 1) := by decide +kernel
theorem dX11_assign_73 : decode cX11_assign 73 = .ok (.getfield 214, 3) := by decide +kernel
theorem dX11_assign_76 : decode cX11_assign 76 = .ok (.aload_n 0, 1) := by decide +kernel
theorem dX11_assign_77 : decode cX11_assign 77 = .ok (.getfield 15, 3) := by decide +kernel
theorem dX11_assign_80 : decode cX11_assign 80 = .ok (.getfield 63, 3) := by decide +kernel
theorem dX11_assign_83 : decode cX11_assign 83 = .ok (.aload_n 0, 1) := by decide +kernel
theorem dX11_assign_84 : decode cX11_assign 84 = .ok (.getfield 214, 3) := by decide +kernel
theorem dX11_assign_87 : decode cX11_assign 87 = .ok (.iaload, 1) := by decide +kernel
theorem dX11_assign_88 : decode cX11_assign 88 = .ok (.aload_n 0, 1) := by decide +kernel
theorem dX11_assign_89 : decode cX11_assign 89 = .ok (.getfield 270, 3) := by decide +kernel
theorem dX11_assign_92 : decode cX11_assign 92 = .ok (.invokevirtual 281, 3) := by decide +kernel
theorem dX11_assign_95 : decode cX11_assign 95 = .ok (.invokevirtual 141, 3) := by decide +kernel
theorem dX11_assign_98 : decode cX11_assign 98 = .ok (.return_, 1) := by decide +kernel
theorem dX11_assignment_0 : decode cX11_assignment 0 = .ok (.aload_n 0, 1) := by decide +kernel
theorem dX11_assignment_1 : decode cX11_assignment 1 = .ok (.getfield 9, 3) := by decide +kernel
theorem dX11_assignment_4 : decode cX11_assignment 4 = .ok (.getfield 93, 3) := by decide +kernel
theorem dX11_assignment_7 : decode cX11_assignment 7 = .ok (.istore_n 2, 1) := by decide +kernel
theorem dX11_assignment_8 : decode cX11_assignment 8 = .ok (.aload_n 0, 1) := by decide +kernel
theorem dX11_assignment_9 : decode cX11_assignment 9 = .ok (.getfield 9, 3) := by decide +kernel
theorem dX11_assignment_12 : decode cX11_assignment 12 = .ok (.getfield 181, 3) := by decide +kernel
theorem dX11_assignment_15 : decode cX11_assignment 15 = .ok (.iload_n 2, 1) := by decide +kernel
theorem dX11_assignment_16 : decode cX11_assignment 16 = .ok (.iaload, 1) := by decide +kernel
theorem dX11_assignment_17 : decode cX11_assignment 17 = .ok (.istore_n 3, 1) := by decide +kernel
theorem dX11_assignment_18 : decode cX11_assignment 18 = .ok (.iload_n 3, 1) := by decide +kernel
theorem dX11_assignment_19 : decode cX11_assignment 19 = .ok (.ifCond .ne 26, 3) := by decide +kernel
theorem dX11_assignment_22 : decode cX11_assignment 22 = .ok (.aload_n 0, 1) := by decide +kernel
theorem dX11_assignment_23 : decode cX11_assignment 23 = .ok (.getfield 23, 3) := by decide +kernel
theorem dX11_assignment_26 : decode cX11_assignment 26 = .ok (.bipush 27, 2) := by decide +kernel
theorem dX11_assignment_28 : decode cX11_assignment 28 = .ok (.aload_n 0, 1) := by decide +kernel
theorem dX11_assignment_29 : decode cX11_assignment 29 = .ok (.iload_n 1, 1) := by decide +kernel
theorem dX11_assignment_30 : decode cX11_assignment 30 = .ok (.invokevirtual 173, 3) := by decide +kernel
theorem dX11_assignment_33 : decode cX11_assignment 33 = .ok (.invokevirtual 141, 3) := by decide +kernel
theorem dX11_assignment_36 : decode cX11_assignment 36 = .ok (.aload_n 0, 1) := by decide +kernel
theorem dX11_assignment_37 : decode cX11_assignment 37 = .ok (.getfield 9, 3) := by decide +kernel
theorem dX11_assignment_40 : decode cX11_assignment 40 = .ok (.iconst 1, 1) := by decide +kernel
theorem dX11_assignment_41 : decode cX11_assignment 41 = .ok (.invokevirtual 120, 3) := by decide +kernel
theorem dX11_assignment_44 : decode cX11_assignment 44 = .ok (.return_, 1) := by decide +kernel
theorem dX11_assignment_45 : decode cX11_assignment 45 = .ok (.aload_n 0, 1) := by decide +kernel
theorem dX11_assignment_46 : decode cX11_assignment 46 = .ok (.getfield 9, 3) := by decide +kernel
theorem dX11_assignment_49 : decode cX11_assignment 49 = .ok (.iload_n 3, 1) := by decide +kernel
theorem dX11_assignment_50 : decode cX11_assignment 50 = .ok (.iconst 1, 1) := by decide +kernel
theorem dX11_assignment_51 : decode cX11_assignment 51 = .ok (.iadd, 1) := by decide +kernel
theorem dX11_assignment_52 : decode cX11_assignment 52 = .ok (.putfield 93, 3) := by decide +kernel
theorem dX11_assignment_55 : decode cX11_assignment 55 = .ok (.aload_n 0, 1) := by decide +kernel
theorem dX11_assignment_56 : decode cX11_assignment 56 = .ok (.getfield 9, 3) := by decide +kernel
theorem dX11_assignment_59 : decode cX11_assignment 59 = .ok (.invokevirtual 138, 3) := by decide +kernel
theorem dX11_assignment_62 : decode cX11_assignment 62 = .ok (.istore 4, 2) := by decide +kernel
theorem dX11_assignment_64 : decode cX11_assignment 64 = .ok (.aload_n 0, 1) := by decide +kernel
theorem dX11_assignment_65 : decode cX11_assignment 65 = .ok (.iload_n 1, 1) := by decide +kernel
theorem dX11_assignment_66 : decode cX11_assignment 66 = .ok (.invokevirtual 173, 3) := by decide +kernel
theorem dX11_assignment_69 : decode cX11_assignment 69 = .ok (.istore 5, 2) := by decide +kernel
theorem dX11_assignment_71 : decode cX11_assignment 71 = .ok (.aload_n 0, 1) := by decide +kernel
theorem dX11_assignment_72 : decode cX11_assignment 72 = .ok (.getfield 9, 3) := by decide +kernel
theorem dX11_assignment_75 : decode cX11_assignment 75 = .ok (.getfield 93, 3) := by decide +kernel
theorem dX11_assignment_78 : decode cX11_assignment 78 = .ok (.istore 6, 2) := by decide +kernel
theorem dX11_assignment_80 : decode cX11_assignment 80 = .ok (.aload_n 0, 1) := by decide +kernel
theorem dX11_assignment_81 : decode cX11_assignment 81 = .ok (.getfield 9, 3) := by decide +kernel
theorem dX11_assignment_84 : decode cX11_assignment 84 = .ok (.getfield 38, 3) := by decide +kernel
theorem dX11_assignment_87 : decode cX11_assignment 87 = .ok (.ifCond .eq 4, 3) := by decide +kernel
theorem dX11_assignment_90 : decode cX11_assignment 90 = .ok (.return_, 1) := by decide +kernel
theorem dX11_assignment_91 : decode cX11_assignment 91 = .ok (.aload_n 0, 1) := by decide +kernel
theorem dX11_assignment_92 : decode cX11_assignment 92 = .ok (.iload_n 2, 1) := by decide +kernel
theorem dX11_assignment_93 : decode cX11_assignment 93 = .ok (.iload_n 3, 1) := by decide +kernel
theorem dX11_assignment_94 : decode cX11_assignment 94 = .ok (.invokevirtual 184, 3) := by decide +kernel
theorem dX11_assignment_97 : decode cX11_assignment 97 = .ok (.istore 7, 2) := by decide +kernel
theorem dX11_assignment_99 : decode cX11_assignment 99 = .ok (.iload 7, 2) := by decide +kernel
theorem dX11_assignment_101 : decode cX11_assignment 101 = .ok (.ifCond .lt 46, 3) := by decide +kernel
theorem dX11_assignment_104 : decode cX11_assignment 104 = .ok (.aload_n 0, 1) := by decide +kernel
theorem dX11_assignment_105 : decode cX11_assignment 105 = .ok (.getfield 47, 3) := by decide +kernel
theorem dX11_assignment_108 : decode cX11_assignment 108 = .ok (.getfield 59, 3) := by decide +kernel
theorem dX11_assignment_111 : decode cX11_assignment 111 = .ok (.iload 7, 2) := by decide +kernel
theorem dX11_assignment_113 : decode cX11_assignment 113 = .ok (.iaload, 1) := by decide +kernel
theorem dX11_assignment_114 : decode cX11_assignment 114 = .ok (.iconst (-1), 1) := by decide +kernel
theorem dX11_assignment_115 : decode cX11_assignment 115 = .ok (.if_icmp .ne 32, 3) := by decide +kernel
theorem dX11_assignment_118 : decode cX11_assignment 118 = .ok (.iload 5, 2) := by decide +kernel
theorem dX11_assignment_120 : decode cX11_assignment 120 = .ok (.ifCond .eq 27, 3) := by decide +kernel
theorem dX11_assignment_123 : decode cX11_assignment 123 = .ok (.aload_n 0, 1) := by decide +kernel
theorem dX11_assignment_124 : decode cX11_assignment 124 = .ok (.getfield 47, 3) := by decide +kernel
theorem dX11_assignment_127 : decode cX11_assignment 127 = .ok (.iload 7, 2) := by decide +kernel
theorem dX11_assignment_129 : decode cX11_assignment 129 = .ok (.iload 5, 2) := by decide +kernel
theorem dX11_assignment_131 : decode cX11_assignment 131 = .ok (.aload_n 0, 1) := by decide +kernel
theorem dX11_assignment_132 : decode cX11_assignment 132 = .ok (.getfield 15, 3) := by decide +kernel
theorem dX11_assignment_135 : decode cX11_assignment 135 = .ok (.getfield 63, 3) := by decide +kernel
theorem dX11_assignment_138 : decode cX11_assignment 138 = .ok (.iload 5, 2) := by decide +kernel
theorem dX11_assignment_140 : decode cX11_assignment 140 = .ok (.iaload, 1) := by decide +kernel
theorem dX11_assignment_141 : decode cX11_assignment 141 = .ok (.invokevirtual 68, 3) := by decide +kernel
theorem dX11_assignment_144 : decode cX11_assignment 144 = .ok (.goto 24, 3) := by decide +kernel
theorem dX11_assignment_147 : decode cX11_assignment 147 = .ok (.iload 5, 2) := by decide +kernel
theorem dX11_assignment_149 : decode cX11_assignment 149 = .ok (.ifCond .ne 19, 3) := by decide +kernel
theorem dX11_assignment_152 : decode cX11_assignment 152 = .ok (.iload 7, 2) := by decide +kernel
theorem dX11_assignment_154 : decode cX11_assignment 154 = .ok (.ifCond .lt 14, 3) := by decide +kernel
theorem dX11_assignment_157 : decode cX11_assignment 157 = .ok (.aload_n 0, 1) := by decide +kernel
theorem dX11_assignment_158 : decode cX11_assignment 158 = .ok (.getfield 9, 3) := by decide +kernel
theorem dX11_assignment_161 : decode cX11_assignment 161 = .ok (.iconst 4, 1) := by decide +kernel
theorem dX11_assignment_162 : decode cX11_assignment 162 = .ok (.iload 4, 2) := by decide +kernel
theorem dX11_assignment_164 : decode cX11_assignment 164 = .ok (.invokevirtual 106, 3) := by decide +kernel
theorem dX11_assignment_167 : decode cX11_assignment 167 = .ok (.return_, 1) := by decide +kernel
theorem dX11_assignment_168 : decode cX11_assignment 168 = .ok (.aload_n 0, 1) := by decide +kernel
theorem dX11_assignment_169 : decode cX11_assignment 169 = .ok (.getfield 9, 3) := by decide +kernel
theorem dX11_assignment_172 : decode cX11_assignment 172 = .ok (.iload_n 2, 1) := by decide +kernel
theorem dX11_assignment_173 : decode cX11_assignment 173 = .ok (.putfield 93, 3) := by decide +kernel
theorem dX11_assignment_176 : decode cX11_assignment 176 = .ok (.aload_n 0, 1) := by decide +kernel
theorem dX11_assignment_177 : decode cX11_assignment 177 = .ok (.iconst 1, 1) := by decide +kernel
theorem dX11_assignment_178 : decode cX11_assignment 178 = .ok (.iload_n 1, 1) := by decide +kernel
theorem dX11_assignment_179 : decode cX11_assignment 179 = .ok (.invokevirtual 188, 3) := by decide +kernel
theorem dX11_assignment_182 : decode cX11_assignment 182 = .ok (.aload_n 0, 1) := by decide +kernel
theorem dX11_assignment_183 : decode cX11_assignment 183 = .ok (.getfield 9, 3) := by decide +kernel
theorem dX11_assignment_186 : decode cX11_assignment 186 = .ok (.getfield 38, 3) := by decide +kernel
theorem dX11_assignment_189 : decode cX11_assignment 189 = .ok (.ifCond .ne 11, 3) := by decide +kernel
theorem dX11_assignment_192 : decode cX11_assignment 192 = .ok (.aload_n 0, 1) := by decide +kernel
theorem dX11_assignment_193 : decode cX11_assignment 193 = .ok (.iload 5, 2) := by decide +kernel
theorem dX11_assignment_195 : decode cX11_assignment 195 = .ok (.iload 4, 2) := by decide +kernel
theorem dX11_assignment_197 : decode cX11_assignment 197 = .ok (.invokevirtual 191, 3) := by decide +kernel
theorem dX11_assignment_200 : decode cX11_assignment 200 = .ok (.aload_n 0, 1) := by decide +kernel
theorem dX11_assignment_201 : decode cX11_assignment 201 = .ok (.getfield 9, 3) := by decide +kernel
theorem dX11_assignment_204 : decode cX11_assignment 204 = .ok (.getfield 38, 3) := by decide +kernel
theorem dX11_assignment_207 : decode cX11_assignment 207 = .ok (.ifCond .ne 14, 3) := by decide +kernel
theorem dX11_assignment_210 : decode cX11_assignment 210 = .ok (.aload_n 0, 1) := by decide +kernel
theorem dX11_assignment_211 : decode cX11_assignment 211 = .ok (.getfield 9, 3) := by decide +kernel
theorem dX11_assignment_214 : decode cX11_assignment 214 = .ok (.iload 6, 2) := by decide +kernel
theorem dX11_assignment_216 : decode cX11_assignment 216 = .ok (.iconst 1, 1) := by decide +kernel
theorem dX11_assignment_217 : decode cX11_assignment 217 = .ok (.iadd, 1) := by decide +kernel
theorem dX11_assignment_218 : decode cX11_assignment 218 = .ok (.putfield 93, 3) := by decide +kernel
theorem dX11_assignment_221 : decode cX11_assignment 221 = .ok (.return_, 1) := by decide +kernel
theorem dX11_binary_0 : decode cX11_binary 0 = .ok (.aload_n 0, 1) := by decide +kernel
theorem dX11_binary_1 : decode cX11_binary 1 = .ok (.iload_n 2, 1) := by decide +kernel
theorem dX11_binary_2 : decode cX11_binary 2 = .ok (.invokevirtual 302, 3) := by decide +kernel
theorem dX11_binary_5 : decode cX11_binary 5 = .ok (.iconst 0, 1) := by decide +kernel
theorem dX11_binary_6 : decode cX11_binary 6 = .ok (.istore_n 3, 1) := by decide +kernel
theorem dX11_binary_7 : decode cX11_binary 7 = .ok (.iload_n 3, 1) := by decide +kernel
theorem dX11_binary_8 : decode cX11_binary 8 = .ok (.sipush 3002, 3) := by decide +kernel
theorem dX11_binary_11 : decode cX11_binary 11 = .ok (.if_icmp .ge 161, 3) := by decide +kernel
theorem dX11_binary_14 : decode cX11_binary 14 = .ok (.aload_n 0, 1) := by decide +kernel
theorem dX11_binary_15 : decode cX11_binary 15 = .ok (.getfield 9, 3) := by decide +kernel
theorem dX11_binary_18 : decode cX11_binary 18 = .ok (.invokevirtual 124, 3) := by decide +kernel
theorem dX11_binary_21 : decode cX11_binary 21 = .ok (.invokestatic 305, 3) := by decide +kernel
theorem dX11_binary_24 : decode cX11_binary 24 = .ok (.iload_n 1, 1) := by decide +kernel
theorem dX11_binary_25 : decode cX11_binary 25 = .ok (.if_icmp .lt 147, 3) := by decide +kernel
theorem dX11_binary_28 : decode cX11_binary 28 = .ok (.aload_n 0, 1) := by decide +kernel
theorem dX11_binary_29 : decode cX11_binary 29 = .ok (.getfield 9, 3) := by decide +kernel
theorem dX11_binary_32 : decode cX11_binary 32 = .ok (.invokevirtual 124, 3) := by decide +kernel
theorem dX11_binary_35 : decode cX11_binary 35 = .ok (.istore 4, 2) := by decide +kernel
theorem dX11_binary_37 : decode cX11_binary 37 = .ok (.aload_n 0, 1) := by decide +kernel
theorem dX11_binary_38 : decode cX11_binary 38 = .ok (.getfield 9, 3) := by decide +kernel
theorem dX11_binary_41 : decode cX11_binary 41 = .ok (.invokevirtual 138, 3) := by decide +kernel
theorem dX11_binary_44 : decode cX11_binary 44 = .ok (.istore 5, 2) := by decide +kernel
theorem dX11_binary_46 : decode cX11_binary 46 = .ok (.aload_n 0, 1) := by decide +kernel
theorem dX11_binary_47 : decode cX11_binary 47 = .ok (.invokevirtual 260, 3) := by decide +kernel
theorem dX11_binary_50 : decode cX11_binary 50 = .ok (.aload_n 0, 1) := by decide +kernel
theorem dX11_binary_51 : decode cX11_binary 51 = .ok (.getfield 214, 3) := by decide +kernel
theorem dX11_binary_54 : decode cX11_binary 54 = .ok (.istore 6, 2) := by decide +kernel
theorem dX11_binary_56 : decode cX11_binary 56 = .ok (.iload 4, 2) := by decide +kernel
theorem dX11_binary_58 : decode cX11_binary 58 = .ok (.sipush 132, 3) := by decide +kernel
theorem dX11_binary_61 : decode cX11_binary 61 = .ok (.if_icmp .eq 11, 3) := by decide +kernel
theorem dX11_binary_64 : decode cX11_binary 64 = .ok (.iload 4, 2) := by decide +kernel
theorem dX11_binary_66 : decode cX11_binary 66 = .ok (.sipush 133, 3) := by decide +kernel
theorem dX11_binary_69 : decode cX11_binary 69 = .ok (.if_icmp .ne 13, 3) := by decide +kernel
theorem dX11_binary_72 : decode cX11_binary 72 = .ok (.aload_n 0, 1) := by decide +kernel
theorem dX11_binary_73 : decode cX11_binary 73 = .ok (.getfield 23, 3) := by decide +kernel
theorem dX11_binary_76 : decode cX11_binary 76 = .ok (.invokevirtual 203, 3) := by decide +kernel
theorem dX11_binary_79 : decode cX11_binary 79 = .ok (.goto 4, 3) := by decide +kernel
theorem dX11_binary_82 : decode cX11_binary 82 = .ok (.iconst (-1), 1) := by decide +kernel
theorem dX11_binary_83 : decode cX11_binary 83 = .ok (.istore 7, 2) := by decide +kernel
theorem dX11_binary_85 : decode cX11_binary 85 = .ok (.iload 7, 2) := by decide +kernel
theorem dX11_binary_87 : decode cX11_binary 87 = .ok (.ifCond .lt 27, 3) := by decide +kernel
theorem dX11_binary_90 : decode cX11_binary 90 = .ok (.aload_n 0, 1) := by decide +kernel
theorem dX11_binary_91 : decode cX11_binary 91 = .ok (.getfield 23, 3) := by decide +kernel
theorem dX11_binary_94 : decode cX11_binary 94 = .ok (.iload 4, 2) := by decide +kernel
theorem dX11_binary_96 : decode cX11_binary 96 = .ok (.sipush 132, 3) := by decide +kernel
theorem dX11_binary_99 : decode cX11_binary 99 = .ok (.if_icmp .ne 8, 3) := by decide +kernel
theorem dX11_binary_102 : decode cX11_binary 102 = .ok (.bipush 18, 2) := by decide +kernel
theorem dX11_binary_104 : decode cX11_binary 104 = .ok (.goto 5, 3) := by decide +kernel
theorem dX11_binary_107 : decode cX11_binary 107 = .ok (.bipush 19, 2) := by decide +kernel
theorem dX11_binary_109 : decode cX11_binary 109 = .ok (.iload 7, 2) := by decide +kernel
theorem dX11_binary_111 : decode cX11_binary 111 = .ok (.invokevirtual 141, 3) := by decide +kernel
theorem dX11_binary_114 : decode cX11_binary 114 = .ok (.aload_n 0, 1) := by decide +kernel
theorem dX11_binary_115 : decode cX11_binary 115 = .ok (.getfield 9, 3) := by decide +kernel
theorem dX11_binary_118 : decode cX11_binary 118 = .ok (.iconst 1, 1) := by decide +kernel
theorem dX11_binary_119 : decode cX11_binary 119 = .ok (.invokevirtual 120, 3) := by decide +kernel
theorem dX11_binary_122 : decode cX11_binary 122 = .ok (.aload_n 0, 1) := by decide +kernel
theorem dX11_binary_123 : decode cX11_binary 123 = .ok (.iload 4, 2) := by decide +kernel
theorem dX11_binary_125 : decode cX11_binary 125 = .ok (.invokestatic 305, 3) := by decide +kernel
theorem dX11_binary_128 : decode cX11_binary 128 = .ok (.iconst 1, 1) := by decide +kernel
theorem dX11_binary_129 : decode cX11_binary 129 = .ok (.iadd, 1) := by decide +kernel
theorem dX11_binary_130 : decode cX11_binary 130 = .ok (.iload_n 2, 1) := by decide +kernel
theorem dX11_binary_131 : decode cX11_binary 131 = .ok (.iconst 1, 1) := by decide +kernel
theorem dX11_binary_132 : decode cX11_binary 132 = .ok (.iadd, 1) := by decide +kernel
theorem dX11_binary_133 : decode cX11_binary 133 = .ok (.invokevirtual 188, 3) := by decide +kernel
theorem dX11_binary_136 : decode cX11_binary 136 = .ok (.aload_n 0, 1) := by decide +kernel
theorem dX11_binary_137 : decode cX11_binary 137 = .ok (.invokevirtual 260, 3) := by decide +kernel
theorem dX11_binary_140 : decode cX11_binary 140 = .ok (.aload_n 0, 1) := by decide +kernel
theorem dX11_binary_141 : decode cX11_binary 141 = .ok (.iload 4, 2) := by decide +kernel
theorem dX11_binary_143 : decode cX11_binary 143 = .ok (.iload 5, 2) := by decide +kernel
theorem dX11_binary_145 : decode cX11_binary 145 = .ok (.iload 6, 2) := by decide +kernel
theorem dX11_binary_147 : decode cX11_binary 147 = .ok (.invokevirtual 308, 3) := by decide +kernel
theorem dX11_binary_150 : decode cX11_binary 150 = .ok (.iload 7, 2) := by decide +kernel
theorem dX11_binary_152 : decode cX11_binary 152 = .ok (.ifCond .lt 14, 3) := by decide +kernel
theorem dX11_binary_155 : decode cX11_binary 155 = .ok (.aload_n 0, 1) := by decide +kernel
theorem dX11_binary_156 : decode cX11_binary 156 = .ok (.getfield 23, 3) := by decide +kernel
theorem dX11_binary_159 : decode cX11_binary 159 = .ok (.bipush 13, 2) := by decide +kernel
theorem dX11_binary_161 : decode cX11_binary 161 = .ok (.iload 7, 2) := by decide +kernel
theorem dX11_binary_163 : decode cX11_binary 163 = .ok (.invokevirtual 209, 3) := by decide +kernel
theorem dX11_binary_166 : decode cX11_binary 166 = .ok (.iinc 3 1, 3) := by decide +kernel
theorem dX11_binary_169 : decode cX11_binary 169 = .ok (.goto (-162), 3) := by decide +kernel
theorem dX11_binary_172 : decode cX11_binary 172 = .ok (.return_, 1) := by decide +kernel
theorem dX11_bind_0 : decode cX11_bind 0 = .ok (.aload_n 0, 1) := by decide +kernel
theorem dX11_bind_1 : decode cX11_bind 1 = .ok (.getfield 47, 3) := by decide +kernel
theorem dX11_bind_4 : decode cX11_bind 4 = .ok (.aload_n 0, 1) := by decide +kernel
theorem dX11_bind_5 : decode cX11_bind 5 = .ok (.getfield 9, 3) := by decide +kernel
theorem dX11_bind_8 : decode cX11_bind 8 = .ok (.getfield 167, 3) := by decide +kernel
theorem dX11_bind_11 : decode cX11_bind 11 = .ok (.aload_n 0, 1) := by decide +kernel
theorem dX11_bind_12 : decode cX11_bind 12 = .ok (.getfield 9, 3) := by decide +kernel
theorem dX11_bind_15 : decode cX11_bind 15 = .ok (.getfield 93, 3) := by decide +kernel
theorem dX11_bind_18 : decode cX11_bind 18 = .ok (.iaload, 1) := by decide +kernel
theorem dX11_bind_19 : decode cX11_bind 19 = .ok (.iconst 0, 1) := by decide +kernel
theorem dX11_bind_20 : decode cX11_bind 20 = .ok (.aload_n 0, 1) := by decide +kernel
theorem dX11_bind_21 : decode cX11_bind 21 = .ok (.getfield 23, 3) := by decide +kernel
theorem dX11_bind_24 : decode cX11_bind 24 = .ok (.getfield 75, 3) := by decide +kernel
theorem dX11_bind_27 : decode cX11_bind 27 = .ok (.invokevirtual 177, 3) := by decide +kernel
theorem dX11_bind_30 : decode cX11_bind 30 = .ok (.istore 5, 2) := by decide +kernel
theorem dX11_bind_32 : decode cX11_bind 32 = .ok (.aload_n 0, 1) := by decide +kernel
theorem dX11_bind_33 : decode cX11_bind 33 = .ok (.getfield 15, 3) := by decide +kernel
theorem dX11_bind_36 : decode cX11_bind 36 = .ok (.getfield 250, 3) := by decide +kernel
theorem dX11_bind_39 : decode cX11_bind 39 = .ok (.iload_n 1, 1) := by decide +kernel
theorem dX11_bind_40 : decode cX11_bind 40 = .ok (.iaload, 1) := by decide +kernel
theorem dX11_bind_41 : decode cX11_bind 41 = .ok (.istore 6, 2) := by decide +kernel
theorem dX11_bind_43 : decode cX11_bind 43 = .ok (.iload_n 3, 1) := by decide +kernel
theorem dX11_bind_44 : decode cX11_bind 44 = .ok (.ifCond .ge 57, 3) := by decide +kernel
theorem dX11_bind_47 : decode cX11_bind 47 = .ok (.aload_n 0, 1) := by decide +kernel
theorem dX11_bind_48 : decode cX11_bind 48 = .ok (.getfield 47, 3) := by decide +kernel
theorem dX11_bind_51 : decode cX11_bind 51 = .ok (.iload 5, 2) := by decide +kernel
theorem dX11_bind_53 : decode cX11_bind 53 = .ok (.iload 6, 2) := by decide +kernel
theorem dX11_bind_55 : decode cX11_bind 55 = .ok (.aload_n 0, 1) := by decide +kernel
theorem dX11_bind_56 : decode cX11_bind 56 = .ok (.getfield 15, 3) := by decide +kernel
theorem dX11_bind_59 : decode cX11_bind 59 = .ok (.getfield 63, 3) := by decide +kernel
theorem dX11_bind_62 : decode cX11_bind 62 = .ok (.iload 6, 2) := by decide +kernel
theorem dX11_bind_64 : decode cX11_bind 64 = .ok (.iaload, 1) := by decide +kernel
theorem dX11_bind_65 : decode cX11_bind 65 = .ok (.invokevirtual 68, 3) := by decide +kernel
theorem dX11_bind_68 : decode cX11_bind 68 = .ok (.aload_n 0, 1) := by decide +kernel
theorem dX11_bind_69 : decode cX11_bind 69 = .ok (.getfield 23, 3) := by decide +kernel
theorem dX11_bind_72 : decode cX11_bind 72 = .ok (.bipush 29, 2) := by decide +kernel
theorem dX11_bind_74 : decode cX11_bind 74 = .ok (.iload 5, 2) := by decide +kernel
theorem dX11_bind_76 : decode cX11_bind 76 = .ok (.aload_n 0, 1) := by decide +kernel
theorem dX11_bind_77 : decode cX11_bind 77 = .ok (.getfield 15, 3) := by decide +kernel
theorem dX11_bind_80 : decode cX11_bind 80 = .ok (.getfield 253, 3) := by decide +kernel
theorem dX11_bind_83 : decode cX11_bind 83 = .ok (.iload_n 1, 1) := by decide +kernel
theorem dX11_bind_84 : decode cX11_bind 84 = .ok (.iaload, 1) := by decide +kernel
theorem dX11_bind_85 : decode cX11_bind 85 = .ok (.aload_n 0, 1) := by decide +kernel
theorem dX11_bind_86 : decode cX11_bind 86 = .ok (.getfield 15, 3) := by decide +kernel
theorem dX11_bind_89 : decode cX11_bind 89 = .ok (.getfield 63, 3) := by decide +kernel
theorem dX11_bind_92 : decode cX11_bind 92 = .ok (.iload_n 2, 1) := by decide +kernel
theorem dX11_bind_93 : decode cX11_bind 93 = .ok (.iaload, 1) := by decide +kernel
theorem dX11_bind_94 : decode cX11_bind 94 = .ok (.iconst (-1), 1) := by decide +kernel
theorem dX11_bind_95 : decode cX11_bind 95 = .ok (.invokevirtual 110, 3) := by decide +kernel
theorem dX11_bind_98 : decode cX11_bind 98 = .ok (.goto 46, 3) := by decide +kernel
theorem dX11_bind_101 : decode cX11_bind 101 = .ok (.aload_n 0, 1) := by decide +kernel
theorem dX11_bind_102 : decode cX11_bind 102 = .ok (.getfield 47, 3) := by decide +kernel
theorem dX11_bind_105 : decode cX11_bind 105 = .ok (.iload 5, 2) := by decide +kernel
theorem dX11_bind_107 : decode cX11_bind 107 = .ok (.aload_n 0, 1) := by decide +kernel
theorem dX11_bind_108 : decode cX11_bind 108 = .ok (.getfield 15, 3) := by decide +kernel
theorem dX11_bind_111 : decode cX11_bind 111 = .ok (.iload 6, 2) := by decide +kernel
theorem dX11_bind_113 : decode cX11_bind 113 = .ok (.iload 4, 2) := by decide +kernel
theorem dX11_bind_115 : decode cX11_bind 115 = .ok (.invokevirtual 256, 3) := by decide +kernel
theorem dX11_bind_118 : decode cX11_bind 118 = .ok (.iconst 1, 1) := by decide +kernel
theorem dX11_bind_119 : decode cX11_bind 119 = .ok (.invokevirtual 68, 3) := by decide +kernel
theorem dX11_bind_122 : decode cX11_bind 122 = .ok (.aload_n 0, 1) := by decide +kernel
theorem dX11_bind_123 : decode cX11_bind 123 = .ok (.getfield 23, 3) := by decide +kernel
theorem dX11_bind_126 : decode cX11_bind 126 = .ok (.bipush 30, 2) := by decide +kernel
theorem dX11_bind_128 : decode cX11_bind 128 = .ok (.iload 5, 2) := by decide +kernel
theorem dX11_bind_130 : decode cX11_bind 130 = .ok (.aload_n 0, 1) := by decide +kernel
theorem dX11_bind_131 : decode cX11_bind 131 = .ok (.getfield 15, 3) := by decide +kernel
theorem dX11_bind_134 : decode cX11_bind 134 = .ok (.getfield 253, 3) := by decide +kernel
theorem dX11_bind_137 : decode cX11_bind 137 = .ok (.iload_n 1, 1) := by decide +kernel
theorem dX11_bind_138 : decode cX11_bind 138 = .ok (.iaload, 1) := by decide +kernel
theorem dX11_bind_139 : decode cX11_bind 139 = .ok (.iload_n 3, 1) := by decide +kernel
theorem dX11_bind_140 : decode cX11_bind 140 = .ok (.iconst (-1), 1) := by decide +kernel
theorem dX11_bind_141 : decode cX11_bind 141 = .ok (.invokevirtual 110, 3) := by decide +kernel
theorem dX11_bind_144 : decode cX11_bind 144 = .ok (.return_, 1) := by decide +kernel
theorem dX11_block_0 : decode cX11_block 0 = .ok (.iconst 0, 1) := by decide +kernel
theorem dX11_block_1 : decode cX11_block 1 = .ok (.istore_n 3, 1) := by decide +kernel
theorem dX11_block_2 : decode cX11_block 2 = .ok (.aload_n 0, 1) := by decide +kernel
theorem dX11_block_3 : decode cX11_block 3 = .ok (.getfield 9, 3) := by decide +kernel
theorem dX11_block_6 : decode cX11_block 6 = .ok (.iconst 1, 1) := by decide +kernel
theorem dX11_block_7 : decode cX11_block 7 = .ok (.invokevirtual 120, 3) := by decide +kernel
theorem dX11_block_10 : decode cX11_block 10 = .ok (.iconst 0, 1) := by decide +kernel
theorem dX11_block_11 : decode cX11_block 11 = .ok (.istore 4, 2) := by decide +kernel
theorem dX11_block_13 : decode cX11_block 13 = .ok (.iload 4, 2) := by decide +kernel
theorem dX11_block_15 : decode cX11_block 15 = .ok (.sipush 3002, 3) := by decide +kernel
theorem dX11_block_18 : decode cX11_block 18 = .ok (.if_icmp .ge 59, 3) := by decide +kernel
theorem dX11_block_21 : decode cX11_block 21 = .ok (.iload_n 2, 1) := by decide +kernel
theorem dX11_block_22 : decode cX11_block 22 = .ok (.bipush 16, 2) := by decide +kernel
theorem dX11_block_24 : decode cX11_block 24 = .ok (.if_icmp .gt 53, 3) := by decide +kernel
theorem dX11_block_27 : decode cX11_block 27 = .ok (.aload_n 0, 1) := by decide +kernel
theorem dX11_block_28 : decode cX11_block 28 = .ok (.getfield 9, 3) := by decide +kernel
theorem dX11_block_31 : decode cX11_block 31 = .ok (.getfield 38, 3) := by decide +kernel
theorem dX11_block_34 : decode cX11_block 34 = .ok (.ifCond .ne 43, 3) := by decide +kernel
theorem dX11_block_37 : decode cX11_block 37 = .ok (.aload_n 0, 1) := by decide +kernel
theorem dX11_block_38 : decode cX11_block 38 = .ok (.getfield 9, 3) := by decide +kernel
theorem dX11_block_41 : decode cX11_block 41 = .ok (.invokevirtual 124, 3) := by decide +kernel
theorem dX11_block_44 : decode cX11_block 44 = .ok (.bipush 125, 2) := by decide +kernel
theorem dX11_block_46 : decode cX11_block 46 = .ok (.if_icmp .eq 31, 3) := by decide +kernel
theorem dX11_block_49 : decode cX11_block 49 = .ok (.aload_n 0, 1) := by decide +kernel
theorem dX11_block_50 : decode cX11_block 50 = .ok (.iload_n 2, 1) := by decide +kernel
theorem dX11_block_51 : decode cX11_block 51 = .ok (.invokevirtual 128, 3) := by decide +kernel
theorem dX11_block_54 : decode cX11_block 54 = .ok (.istore 5, 2) := by decide +kernel
theorem dX11_block_56 : decode cX11_block 56 = .ok (.iload_n 3, 1) := by decide +kernel
theorem dX11_block_57 : decode cX11_block 57 = .ok (.ifCond .ne 8, 3) := by decide +kernel
theorem dX11_block_60 : decode cX11_block 60 = .ok (.iload 5, 2) := by decide +kernel
theorem dX11_block_62 : decode cX11_block 62 = .ok (.ifCond .eq 7, 3) := by decide +kernel
theorem dX11_block_65 : decode cX11_block 65 = .ok (.iconst 1, 1) := by decide +kernel
theorem dX11_block_66 : decode cX11_block 66 = .ok (.goto 4, 3) := by decide +kernel
theorem dX11_block_69 : decode cX11_block 69 = .ok (.iconst 0, 1) := by decide +kernel
theorem dX11_block_70 : decode cX11_block 70 = .ok (.istore_n 3, 1) := by decide +kernel
theorem dX11_block_71 : decode cX11_block 71 = .ok (.iinc 4 1, 3) := by decide +kernel
theorem dX11_block_74 : decode cX11_block 74 = .ok (.goto (-61), 3) := by decide +kernel
theorem dX11_block_77 : decode cX11_block 77 = .ok (.iload_n 1, 1) := by decide +kernel
theorem dX11_block_78 : decode cX11_block 78 = .ok (.aload_n 0, 1) := by decide +kernel
theorem dX11_block_79 : decode cX11_block 79 = .ok (.getfield 47, 3) := by decide +kernel
theorem dX11_block_82 : decode cX11_block 82 = .ok (.getfield 132, 3) := by decide +kernel
theorem dX11_block_85 : decode cX11_block 85 = .ok (.if_icmp .ge 43, 3) := by decide +kernel
theorem dX11_block_88 : decode cX11_block 88 = .ok (.aload_n 0, 1) := by decide +kernel
theorem dX11_block_89 : decode cX11_block 89 = .ok (.getfield 47, 3) := by decide +kernel
theorem dX11_block_92 : decode cX11_block 92 = .ok (.iload_n 1, 1) := by decide +kernel
theorem dX11_block_93 : decode cX11_block 93 = .ok (.aload_n 0, 1) := by decide +kernel
theorem dX11_block_94 : decode cX11_block 94 = .ok (.getfield 23, 3) := by decide +kernel
theorem dX11_block_97 : decode cX11_block 97 = .ok (.getfield 75, 3) := by decide +kernel
theorem dX11_block_100 : decode cX11_block 100 = .ok (.invokevirtual 135, 3) := by decide +kernel
theorem dX11_block_103 : decode cX11_block 103 = .ok (.aload_n 0, 1) := by decide +kernel
theorem dX11_block_104 : decode cX11_block 104 = .ok (.getfield 23, 3) := by decide +kernel
theorem dX11_block_107 : decode cX11_block 107 = .ok (.bipush 32, 2) := by decide +kernel
theorem dX11_block_109 : decode cX11_block 109 = .ok (.iload_n 1, 1) := by decide +kernel
theorem dX11_block_110 : decode cX11_block 110 = .ok (.aload_n 0, 1) := by decide +kernel
theorem dX11_block_111 : decode cX11_block 111 = .ok (.getfield 47, 3) := by decide +kernel
theorem dX11_block_114 : decode cX11_block 114 = .ok (.getfield 132, 3) := by decide +kernel
theorem dX11_block_117 : decode cX11_block 117 = .ok (.iconst 0, 1) := by decide +kernel
theorem dX11_block_118 : decode cX11_block 118 = .ok (.aload_n 0, 1) := by decide +kernel
theorem dX11_block_119 : decode cX11_block 119 = .ok (.getfield 9, 3) := by decide +kernel
theorem dX11_block_122 : decode cX11_block 122 = .ok (.invokevirtual 138, 3) := by decide +kernel
theorem dX11_block_125 : decode cX11_block 125 = .ok (.invokevirtual 110, 3) := by decide +kernel
theorem dX11_block_128 : decode cX11_block 128 = .ok (.aload_n 0, 1) := by decide +kernel
theorem dX11_block_129 : decode cX11_block 129 = .ok (.getfield 9, 3) := by decide +kernel
theorem dX11_block_132 : decode cX11_block 132 = .ok (.iconst 1, 1) := by decide +kernel
theorem dX11_block_133 : decode cX11_block 133 = .ok (.invokevirtual 120, 3) := by decide +kernel
theorem dX11_block_136 : decode cX11_block 136 = .ok (.iload_n 3, 1) := by decide +kernel
theorem dX11_block_137 : decode cX11_block 137 = .ok (.ireturn, 1) := by decide +kernel
theorem dX11_body_0 : decode cX11_body 0 = .ok (.iconst 0, 1) := by decide +kernel
theorem dX11_body_1 : decode cX11_body 1 = .ok (.istore_n 1, 1) := by decide +kernel
theorem dX11_body_2 : decode cX11_body 2 = .ok (.iload_n 1, 1) := by decide +kernel
theorem dX11_body_3 : decode cX11_body 3 = .ok (.aload_n 0, 1) := by decide +kernel
theorem dX11_body_4 : decode cX11_body 4 = .ok (.getfield 47, 3) := by decide +kernel
theorem dX11_body_7 : decode cX11_body 7 = .ok (.getfield 54, 3) := by decide +kernel
theorem dX11_body_10 : decode cX11_body 10 = .ok (.if_icmp .ge 59, 3) := by decide +kernel
theorem dX11_body_13 : decode cX11_body 13 = .ok (.aload_n 0, 1) := by decide +kernel
theorem dX11_body_14 : decode cX11_body 14 = .ok (.getfield 47, 3) := by decide +kernel
theorem dX11_body_17 : decode cX11_body 17 = .ok (.iload_n 1, 1) := by decide +kernel
theorem dX11_body_18 : decode cX11_body 18 = .ok (.aload_n 0, 1) := by decide +kernel
theorem dX11_body_19 : decode cX11_body 19 = .ok (.getfield 47, 3) := by decide +kernel
theorem dX11_body_22 : decode cX11_body 22 = .ok (.getfield 59, 3) := by decide +kernel
theorem dX11_body_25 : decode cX11_body 25 = .ok (.iload_n 1, 1) := by decide +kernel
theorem dX11_body_26 : decode cX11_body 26 = .ok (.iaload, 1) := by decide +kernel
theorem dX11_body_27 : decode cX11_body 27 = .ok (.aload_n 0, 1) := by decide +kernel
theorem dX11_body_28 : decode cX11_body 28 = .ok (.getfield 15, 3) := by decide +kernel
theorem dX11_body_31 : decode cX11_body 31 = .ok (.getfield 63, 3) := by decide +kernel
theorem dX11_body_34 : decode cX11_body 34 = .ok (.aload_n 0, 1) := by decide +kernel
theorem dX11_body_35 : decode cX11_body 35 = .ok (.getfield 47, 3) := by decide +kernel
theorem dX11_body_38 : decode cX11_body 38 = .ok (.getfield 59, 3) := by decide +kernel
theorem dX11_body_41 : decode cX11_body 41 = .ok (.iload_n 1, 1) := by decide +kernel
theorem dX11_body_42 : decode cX11_body 42 = .ok (.iaload, 1) := by decide +kernel
theorem dX11_body_43 : decode cX11_body 43 = .ok (.iaload, 1) := by decide +kernel
theorem dX11_body_44 : decode cX11_body 44 = .ok (.invokevirtual 68, 3) := by decide +kernel
theorem dX11_body_47 : decode cX11_body 47 = .ok (.aload_n 0, 1) := by decide +kernel
theorem dX11_body_48 : decode cX11_body 48 = .ok (.getfield 47, 3) := by decide +kernel
theorem dX11_body_51 : decode cX11_body 51 = .ok (.getfield 72, 3) := by decide +kernel
theorem dX11_body_54 : decode cX11_body 54 = .ok (.iload_n 1, 1) := by decide +kernel
theorem dX11_body_55 : decode cX11_body 55 = .ok (.aload_n 0, 1) := by decide +kernel
theorem dX11_body_56 : decode cX11_body 56 = .ok (.getfield 23, 3) := by decide +kernel
theorem dX11_body_59 : decode cX11_body 59 = .ok (.getfield 75, 3) := by decide +kernel
theorem dX11_body_62 : decode cX11_body 62 = .ok (.iastore, 1) := by decide +kernel
theorem dX11_body_63 : decode cX11_body 63 = .ok (.iinc 1 1, 3) := by decide +kernel
theorem dX11_body_66 : decode cX11_body 66 = .ok (.goto (-64), 3) := by decide +kernel
theorem dX11_body_69 : decode cX11_body 69 = .ok (.aload_n 0, 1) := by decide +kernel
theorem dX11_body_70 : decode cX11_body 70 = .ok (.getfield 47, 3) := by decide +kernel
theorem dX11_body_73 : decode cX11_body 73 = .ok (.aload_n 0, 1) := by decide +kernel
theorem dX11_body_74 : decode cX11_body 74 = .ok (.getfield 47, 3) := by decide +kernel
theorem dX11_body_77 : decode cX11_body 77 = .ok (.getfield 76, 3) := by decide +kernel
theorem dX11_body_80 : decode cX11_body 80 = .ok (.putfield 79, 3) := by decide +kernel
theorem dX11_body_83 : decode cX11_body 83 = .ok (.aload_n 0, 1) := by decide +kernel
theorem dX11_body_84 : decode cX11_body 84 = .ok (.getfield 47, 3) := by decide +kernel
theorem dX11_body_87 : decode cX11_body 87 = .ok (.aload_n 0, 1) := by decide +kernel
theorem dX11_body_88 : decode cX11_body 88 = .ok (.getfield 23, 3) := by decide +kernel
theorem dX11_body_91 : decode cX11_body 91 = .ok (.getfield 75, 3) := by decide +kernel
theorem dX11_body_94 : decode cX11_body 94 = .ok (.putfield 82, 3) := by decide +kernel
theorem dX11_body_97 : decode cX11_body 97 = .ok (.aload_n 0, 1) := by decide +kernel
theorem dX11_body_98 : decode cX11_body 98 = .ok (.getfield 47, 3) := by decide +kernel
theorem dX11_body_101 : decode cX11_body 101 = .ok (.aload_n 0, 1) := by decide +kernel
theorem dX11_body_102 : decode cX11_body 102 = .ok (.getfield 23, 3) := by decide +kernel
theorem dX11_body_105 : decode cX11_body 105 = .ok (.getfield 85, 3) := by decide +kernel
theorem dX11_body_108 : decode cX11_body 108 = .ok (.putfield 88, 3) := by decide +kernel
theorem dX11_body_111 : decode cX11_body 111 = .ok (.aload_n 0, 1) := by decide +kernel
theorem dX11_body_112 : decode cX11_body 112 = .ok (.getfield 9, 3) := by decide +kernel
theorem dX11_body_115 : decode cX11_body 115 = .ok (.aload_n 0, 1) := by decide +kernel
theorem dX11_body_116 : decode cX11_body 116 = .ok (.getfield 47, 3) := by decide +kernel
theorem dX11_body_119 : decode cX11_body 119 = .ok (.getfield 91, 3) := by decide +kernel
theorem dX11_body_122 : decode cX11_body 122 = .ok (.putfield 93, 3) := by decide +kernel
theorem dX11_body_125 : decode cX11_body 125 = .ok (.aload_n 0, 1) := by decide +kernel
theorem dX11_body_126 : decode cX11_body 126 = .ok (.aload_n 0, 1) := by decide +kernel
theorem dX11_body_127 : decode cX11_body 127 = .ok (.getfield 47, 3) := by decide +kernel
theorem dX11_body_130 : decode cX11_body 130 = .ok (.getfield 54, 3) := by decide +kernel
theorem dX11_body_133 : decode cX11_body 133 = .ok (.iconst 1, 1) := by decide +kernel
theorem dX11_body_134 : decode cX11_body 134 = .ok (.invokevirtual 96, 3) := by decide +kernel
theorem dX11_body_137 : decode cX11_body 137 = .ok (.istore_n 1, 1) := by decide +kernel
theorem dX11_body_138 : decode cX11_body 138 = .ok (.aload_n 0, 1) := by decide +kernel
theorem dX11_body_139 : decode cX11_body 139 = .ok (.getfield 9, 3) := by decide +kernel
theorem dX11_body_142 : decode cX11_body 142 = .ok (.getfield 100, 3) := by decide +kernel
theorem dX11_body_145 : decode cX11_body 145 = .ok (.aload_n 0, 1) := by decide +kernel
theorem dX11_body_146 : decode cX11_body 146 = .ok (.getfield 9, 3) := by decide +kernel
theorem dX11_body_149 : decode cX11_body 149 = .ok (.getfield 93, 3) := by decide +kernel
theorem dX11_body_152 : decode cX11_body 152 = .ok (.iconst 1, 1) := by decide +kernel
theorem dX11_body_153 : decode cX11_body 153 = .ok (.isub, 1) := by decide +kernel
theorem dX11_body_154 : decode cX11_body 154 = .ok (.iaload, 1) := by decide +kernel
theorem dX11_body_155 : decode cX11_body 155 = .ok (.istore_n 2, 1) := by decide +kernel
theorem dX11_body_156 : decode cX11_body 156 = .ok (.iload_n 1, 1) := by decide +kernel
theorem dX11_body_157 : decode cX11_body 157 = .ok (.ifCond .ne 22, 3) := by decide +kernel
theorem dX11_body_160 : decode cX11_body 160 = .ok (.aload_n 0, 1) := by decide +kernel
theorem dX11_body_161 : decode cX11_body 161 = .ok (.getfield 47, 3) := by decide +kernel
theorem dX11_body_164 : decode cX11_body 164 = .ok (.getfield 103, 3) := by decide +kernel
theorem dX11_body_167 : decode cX11_body 167 = .ok (.ifCond .eq 12, 3) := by decide +kernel
theorem dX11_body_170 : decode cX11_body 170 = .ok (.aload_n 0, 1) := by decide +kernel
theorem dX11_body_171 : decode cX11_body 171 = .ok (.getfield 9, 3) := by decide +kernel
theorem dX11_body_174 : decode cX11_body 174 = .ok (.iconst 4, 1) := by decide +kernel
theorem dX11_body_175 : decode cX11_body 175 = .ok (.iload_n 2, 1) := by decide +kernel
theorem dX11_body_176 : decode cX11_body 176 = .ok (.invokevirtual 106, 3) := by decide +kernel
theorem dX11_body_179 : decode cX11_body 179 = .ok (.aload_n 0, 1) := by decide +kernel
theorem dX11_body_180 : decode cX11_body 180 = .ok (.getfield 23, 3) := by decide +kernel
theorem dX11_body_183 : decode cX11_body 183 = .ok (.bipush 22, 2) := by decide +kernel
theorem dX11_body_185 : decode cX11_body 185 = .ok (.iconst 0, 1) := by decide +kernel
theorem dX11_body_186 : decode cX11_body 186 = .ok (.iconst 0, 1) := by decide +kernel
theorem dX11_body_187 : decode cX11_body 187 = .ok (.iconst (-1), 1) := by decide +kernel
theorem dX11_body_188 : decode cX11_body 188 = .ok (.iload_n 2, 1) := by decide +kernel
theorem dX11_body_189 : decode cX11_body 189 = .ok (.invokevirtual 110, 3) := by decide +kernel
theorem dX11_body_192 : decode cX11_body 192 = .ok (.aload_n 0, 1) := by decide +kernel
theorem dX11_body_193 : decode cX11_body 193 = .ok (.getfield 47, 3) := by decide +kernel
theorem dX11_body_196 : decode cX11_body 196 = .ok (.aload_n 0, 1) := by decide +kernel
theorem dX11_body_197 : decode cX11_body 197 = .ok (.getfield 23, 3) := by decide +kernel
theorem dX11_body_200 : decode cX11_body 200 = .ok (.getfield 75, 3) := by decide +kernel
theorem dX11_body_203 : decode cX11_body 203 = .ok (.putfield 114, 3) := by decide +kernel
theorem dX11_body_206 : decode cX11_body 206 = .ok (.aload_n 0, 1) := by decide +kernel
theorem dX11_body_207 : decode cX11_body 207 = .ok (.getfield 47, 3) := by decide +kernel
theorem dX11_body_210 : decode cX11_body 210 = .ok (.aload_n 0, 1) := by decide +kernel
theorem dX11_body_211 : decode cX11_body 211 = .ok (.getfield 23, 3) := by decide +kernel
theorem dX11_body_214 : decode cX11_body 214 = .ok (.getfield 85, 3) := by decide +kernel
theorem dX11_body_217 : decode cX11_body 217 = .ok (.putfield 117, 3) := by decide +kernel
theorem dX11_body_220 : decode cX11_body 220 = .ok (.return_, 1) := by decide +kernel
theorem dX11_borrow_0 : decode cX11_borrow 0 = .ok (.aload_n 0, 1) := by decide +kernel
theorem dX11_borrow_1 : decode cX11_borrow 1 = .ok (.getfield 285, 3) := by decide +kernel
theorem dX11_borrow_4 : decode cX11_borrow 4 = .ok (.ifCond .eq 17, 3) := by decide +kernel
theorem dX11_borrow_7 : decode cX11_borrow 7 = .ok (.aload_n 0, 1) := by decide +kernel
theorem dX11_borrow_8 : decode cX11_borrow 8 = .ok (.getfield 15, 3) := by decide +kernel
theorem dX11_borrow_11 : decode cX11_borrow 11 = .ok (.aload_n 0, 1) := by decide +kernel
theorem dX11_borrow_12 : decode cX11_borrow 12 = .ok (.getfield 214, 3) := by decide +kernel
theorem dX11_borrow_15 : decode cX11_borrow 15 = .ok (.invokevirtual 299, 3) := by decide +kernel
theorem dX11_borrow_18 : decode cX11_borrow 18 = .ok (.ifCond .eq 13, 3) := by decide +kernel
theorem dX11_borrow_21 : decode cX11_borrow 21 = .ok (.aload_n 0, 1) := by decide +kernel
theorem dX11_borrow_22 : decode cX11_borrow 22 = .ok (.getfield 9, 3) := by decide +kernel
theorem dX11_borrow_25 : decode cX11_borrow 25 = .ok (.iconst 4, 1) := by decide +kernel
theorem dX11_borrow_26 : decode cX11_borrow 26 = .ok (.iload_n 2, 1) := by decide +kernel
theorem dX11_borrow_27 : decode cX11_borrow 27 = .ok (.invokevirtual 106, 3) := by decide +kernel
theorem dX11_borrow_30 : decode cX11_borrow 30 = .ok (.return_, 1) := by decide +kernel
theorem dX11_borrow_31 : decode cX11_borrow 31 = .ok (.aload_n 0, 1) := by decide +kernel
theorem dX11_borrow_32 : decode cX11_borrow 32 = .ok (.iload_n 1, 1) := by decide +kernel
theorem dX11_borrow_33 : decode cX11_borrow 33 = .ok (.invokevirtual 216, 3) := by decide +kernel
theorem dX11_borrow_36 : decode cX11_borrow 36 = .ok (.pop, 1) := by decide +kernel
theorem dX11_borrow_37 : decode cX11_borrow 37 = .ok (.aload_n 0, 1) := by decide +kernel
theorem dX11_borrow_38 : decode cX11_borrow 38 = .ok (.aload_n 0, 1) := by decide +kernel
theorem dX11_borrow_39 : decode cX11_borrow 39 = .ok (.getfield 15, 3) := by decide +kernel
theorem dX11_borrow_42 : decode cX11_borrow 42 = .ok (.aload_n 0, 1) := by decide +kernel
theorem dX11_borrow_43 : decode cX11_borrow 43 = .ok (.getfield 214, 3) := by decide +kernel
theorem dX11_borrow_46 : decode cX11_borrow 46 = .ok (.iload_n 1, 1) := by decide +kernel
theorem dX11_borrow_47 : decode cX11_borrow 47 = .ok (.invokevirtual 256, 3) := by decide +kernel
theorem dX11_borrow_50 : decode cX11_borrow 50 = .ok (.invokevirtual 311, 3) := by decide +kernel
theorem dX11_borrow_53 : decode cX11_borrow 53 = .ok (.return_, 1) := by decide +kernel
theorem dX11_branch_0 : decode cX11_branch 0 = .ok (.aload_n 0, 1) := by decide +kernel
theorem dX11_branch_1 : decode cX11_branch 1 = .ok (.getfield 23, 3) := by decide +kernel
theorem dX11_branch_4 : decode cX11_branch 4 = .ok (.invokevirtual 203, 3) := by decide +kernel
theorem dX11_branch_7 : decode cX11_branch 7 = .ok (.istore_n 2, 1) := by decide +kernel
theorem dX11_branch_8 : decode cX11_branch 8 = .ok (.iconst 1, 1) := by decide +kernel
theorem dX11_branch_9 : decode cX11_branch 9 = .ok (.istore_n 3, 1) := by decide +kernel
theorem dX11_branch_10 : decode cX11_branch 10 = .ok (.iconst 1, 1) := by decide +kernel
theorem dX11_branch_11 : decode cX11_branch 11 = .ok (.istore 4, 2) := by decide +kernel
theorem dX11_branch_13 : decode cX11_branch 13 = .ok (.iconst 0, 1) := by decide +kernel
theorem dX11_branch_14 : decode cX11_branch 14 = .ok (.istore 5, 2) := by decide +kernel
theorem dX11_branch_16 : decode cX11_branch 16 = .ok (.iconst 0, 1) := by decide +kernel
theorem dX11_branch_17 : decode cX11_branch 17 = .ok (.istore 6, 2) := by decide +kernel
theorem dX11_branch_19 : decode cX11_branch 19 = .ok (.iload 6, 2) := by decide +kernel
theorem dX11_branch_21 : decode cX11_branch 21 = .ok (.sipush 3002, 3) := by decide +kernel
theorem dX11_branch_24 : decode cX11_branch 24 = .ok (.if_icmp .ge 144, 3) := by decide +kernel
theorem dX11_branch_27 : decode cX11_branch 27 = .ok (.iload 4, 2) := by decide +kernel
theorem dX11_branch_29 : decode cX11_branch 29 = .ok (.ifCond .eq 139, 3) := by decide +kernel
theorem dX11_branch_32 : decode cX11_branch 32 = .ok (.aload_n 0, 1) := by decide +kernel
theorem dX11_branch_33 : decode cX11_branch 33 = .ok (.getfield 9, 3) := by decide +kernel
theorem dX11_branch_36 : decode cX11_branch 36 = .ok (.getfield 38, 3) := by decide +kernel
theorem dX11_branch_39 : decode cX11_branch 39 = .ok (.ifCond .ne 129, 3) := by decide +kernel
theorem dX11_branch_42 : decode cX11_branch 42 = .ok (.aload_n 0, 1) := by decide +kernel
theorem dX11_branch_43 : decode cX11_branch 43 = .ok (.getfield 9, 3) := by decide +kernel
theorem dX11_branch_46 : decode cX11_branch 46 = .ok (.iconst 1, 1) := by decide +kernel
theorem dX11_branch_47 : decode cX11_branch 47 = .ok (.invokevirtual 120, 3) := by decide +kernel
theorem dX11_branch_50 : decode cX11_branch 50 = .ok (.aload_n 0, 1) := by decide +kernel
theorem dX11_branch_51 : decode cX11_branch 51 = .ok (.iload_n 1, 1) := by decide +kernel
theorem dX11_branch_52 : decode cX11_branch 52 = .ok (.invokevirtual 206, 3) := by decide +kernel
theorem dX11_branch_55 : decode cX11_branch 55 = .ok (.aload_n 0, 1) := by decide +kernel
theorem dX11_branch_56 : decode cX11_branch 56 = .ok (.getfield 23, 3) := by decide +kernel
theorem dX11_branch_59 : decode cX11_branch 59 = .ok (.invokevirtual 203, 3) := by decide +kernel
theorem dX11_branch_62 : decode cX11_branch 62 = .ok (.istore 7, 2) := by decide +kernel
theorem dX11_branch_64 : decode cX11_branch 64 = .ok (.aload_n 0, 1) := by decide +kernel
theorem dX11_branch_65 : decode cX11_branch 65 = .ok (.getfield 23, 3) := by decide +kernel
theorem dX11_branch_68 : decode cX11_branch 68 = .ok (.bipush 17, 2) := by decide +kernel
theorem dX11_branch_70 : decode cX11_branch 70 = .ok (.iload 7, 2) := by decide +kernel
theorem dX11_branch_72 : decode cX11_branch 72 = .ok (.invokevirtual 141, 3) := by decide +kernel
theorem dX11_branch_75 : decode cX11_branch 75 = .ok (.aload_n 0, 1) := by decide +kernel
theorem dX11_branch_76 : decode cX11_branch 76 = .ok (.aload_n 0, 1) := by decide +kernel
theorem dX11_branch_77 : decode cX11_branch 77 = .ok (.getfield 47, 3) := by decide +kernel
theorem dX11_branch_80 : decode cX11_branch 80 = .ok (.getfield 132, 3) := by decide +kernel
theorem dX11_branch_83 : decode cX11_branch 83 = .ok (.iload_n 1, 1) := by decide +kernel
theorem dX11_branch_84 : decode cX11_branch 84 = .ok (.iconst 1, 1) := by decide +kernel
theorem dX11_branch_85 : decode cX11_branch 85 = .ok (.iadd, 1) := by decide +kernel
theorem dX11_branch_86 : decode cX11_branch 86 = .ok (.invokevirtual 96, 3) := by decide +kernel
theorem dX11_branch_89 : decode cX11_branch 89 = .ok (.istore 8, 2) := by decide +kernel
theorem dX11_branch_91 : decode cX11_branch 91 = .ok (.iload_n 3, 1) := by decide +kernel
theorem dX11_branch_92 : decode cX11_branch 92 = .ok (.ifCond .eq 12, 3) := by decide +kernel
theorem dX11_branch_95 : decode cX11_branch 95 = .ok (.iload 8, 2) := by decide +kernel
theorem dX11_branch_97 : decode cX11_branch 97 = .ok (.ifCond .eq 7, 3) := by decide +kernel
theorem dX11_branch_100 : decode cX11_branch 100 = .ok (.iconst 1, 1) := by decide +kernel
theorem dX11_branch_101 : decode cX11_branch 101 = .ok (.goto 4, 3) := by decide +kernel
theorem dX11_branch_104 : decode cX11_branch 104 = .ok (.iconst 0, 1) := by decide +kernel
theorem dX11_branch_105 : decode cX11_branch 105 = .ok (.istore_n 3, 1) := by decide +kernel
theorem dX11_branch_106 : decode cX11_branch 106 = .ok (.aload_n 0, 1) := by decide +kernel
theorem dX11_branch_107 : decode cX11_branch 107 = .ok (.getfield 23, 3) := by decide +kernel
theorem dX11_branch_110 : decode cX11_branch 110 = .ok (.bipush 16, 2) := by decide +kernel
theorem dX11_branch_112 : decode cX11_branch 112 = .ok (.iload_n 2, 1) := by decide +kernel
theorem dX11_branch_113 : decode cX11_branch 113 = .ok (.invokevirtual 141, 3) := by decide +kernel
theorem dX11_branch_116 : decode cX11_branch 116 = .ok (.aload_n 0, 1) := by decide +kernel
theorem dX11_branch_117 : decode cX11_branch 117 = .ok (.getfield 23, 3) := by decide +kernel
theorem dX11_branch_120 : decode cX11_branch 120 = .ok (.bipush 13, 2) := by decide +kernel
theorem dX11_branch_122 : decode cX11_branch 122 = .ok (.iload 7, 2) := by decide +kernel
theorem dX11_branch_124 : decode cX11_branch 124 = .ok (.invokevirtual 209, 3) := by decide +kernel
theorem dX11_branch_127 : decode cX11_branch 127 = .ok (.aload_n 0, 1) := by decide +kernel
theorem dX11_branch_128 : decode cX11_branch 128 = .ok (.getfield 9, 3) := by decide +kernel
theorem dX11_branch_131 : decode cX11_branch 131 = .ok (.bipush 11, 2) := by decide +kernel
theorem dX11_branch_133 : decode cX11_branch 133 = .ok (.invokevirtual 164, 3) := by decide +kernel
theorem dX11_branch_136 : decode cX11_branch 136 = .ok (.istore 5, 2) := by decide +kernel
theorem dX11_branch_138 : decode cX11_branch 138 = .ok (.iload 5, 2) := by decide +kernel
theorem dX11_branch_140 : decode cX11_branch 140 = .ok (.ifCond .eq 19, 3) := by decide +kernel
theorem dX11_branch_143 : decode cX11_branch 143 = .ok (.aload_n 0, 1) := by decide +kernel
theorem dX11_branch_144 : decode cX11_branch 144 = .ok (.getfield 9, 3) := by decide +kernel
theorem dX11_branch_147 : decode cX11_branch 147 = .ok (.invokevirtual 124, 3) := by decide +kernel
theorem dX11_branch_150 : decode cX11_branch 150 = .ok (.bipush 10, 2) := by decide +kernel
theorem dX11_branch_152 : decode cX11_branch 152 = .ok (.if_icmp .ne 7, 3) := by decide +kernel
theorem dX11_branch_155 : decode cX11_branch 155 = .ok (.iconst 1, 1) := by decide +kernel
theorem dX11_branch_156 : decode cX11_branch 156 = .ok (.goto 4, 3) := by decide +kernel
theorem dX11_branch_159 : decode cX11_branch 159 = .ok (.iconst 0, 1) := by decide +kernel
theorem dX11_branch_160 : decode cX11_branch 160 = .ok (.istore 4, 2) := by decide +kernel
theorem dX11_branch_162 : decode cX11_branch 162 = .ok (.iinc 6 1, 3) := by decide +kernel
theorem dX11_branch_165 : decode cX11_branch 165 = .ok (.goto (-146), 3) := by decide +kernel
theorem dX11_branch_168 : decode cX11_branch 168 = .ok (.iload 5, 2) := by decide +kernel
theorem dX11_branch_170 : decode cX11_branch 170 = .ok (.ifCond .eq 44, 3) := by decide +kernel
theorem dX11_branch_173 : decode cX11_branch 173 = .ok (.aload_n 0, 1) := by decide +kernel
theorem dX11_branch_174 : decode cX11_branch 174 = .ok (.getfield 9, 3) := by decide +kernel
theorem dX11_branch_177 : decode cX11_branch 177 = .ok (.getfield 38, 3) := by decide +kernel
theorem dX11_branch_180 : decode cX11_branch 180 = .ok (.ifCond .ne 34, 3) := by decide +kernel
theorem dX11_branch_183 : decode cX11_branch 183 = .ok (.aload_n 0, 1) := by decide +kernel
theorem dX11_branch_184 : decode cX11_branch 184 = .ok (.aload_n 0, 1) := by decide +kernel
theorem dX11_branch_185 : decode cX11_branch 185 = .ok (.getfield 47, 3) := by decide +kernel
theorem dX11_branch_188 : decode cX11_branch 188 = .ok (.getfield 132, 3) := by decide +kernel
theorem dX11_branch_191 : decode cX11_branch 191 = .ok (.iload_n 1, 1) := by decide +kernel
theorem dX11_branch_192 : decode cX11_branch 192 = .ok (.iconst 1, 1) := by decide +kernel
theorem dX11_branch_193 : decode cX11_branch 193 = .ok (.iadd, 1) := by decide +kernel
theorem dX11_branch_194 : decode cX11_branch 194 = .ok (.invokevirtual 96, 3) := by decide +kernel
theorem dX11_branch_197 : decode cX11_branch 197 = .ok (.istore 6, 2) := by decide +kernel
theorem dX11_branch_199 : decode cX11_branch 199 = .ok (.iload_n 3, 1) := by decide +kernel
theorem dX11_branch_200 : decode cX11_branch 200 = .ok (.ifCond .eq 12, 3) := by decide +kernel
theorem dX11_branch_203 : decode cX11_branch 203 = .ok (.iload 6, 2) := by decide +kernel
theorem dX11_branch_205 : decode cX11_branch 205 = .ok (.ifCond .eq 7, 3) := by decide +kernel
theorem dX11_branch_208 : decode cX11_branch 208 = .ok (.iconst 1, 1) := by decide +kernel
theorem dX11_branch_209 : decode cX11_branch 209 = .ok (.goto 4, 3) := by decide +kernel
theorem dX11_branch_212 : decode cX11_branch 212 = .ok (.iconst 0, 1) := by decide +kernel
theorem dX11_branch_213 : decode cX11_branch 213 = .ok (.istore_n 3, 1) := by decide +kernel
theorem dX11_branch_214 : decode cX11_branch 214 = .ok (.aload_n 0, 1) := by decide +kernel
theorem dX11_branch_215 : decode cX11_branch 215 = .ok (.getfield 23, 3) := by decide +kernel
theorem dX11_branch_218 : decode cX11_branch 218 = .ok (.bipush 13, 2) := by decide +kernel
theorem dX11_branch_220 : decode cX11_branch 220 = .ok (.iload_n 2, 1) := by decide +kernel
theorem dX11_branch_221 : decode cX11_branch 221 = .ok (.invokevirtual 209, 3) := by decide +kernel
theorem dX11_branch_224 : decode cX11_branch 224 = .ok (.iload_n 3, 1) := by decide +kernel
theorem dX11_branch_225 : decode cX11_branch 225 = .ok (.ifCond .eq 12, 3) := by decide +kernel
theorem dX11_branch_228 : decode cX11_branch 228 = .ok (.iload 5, 2) := by decide +kernel
theorem dX11_branch_230 : decode cX11_branch 230 = .ok (.ifCond .eq 7, 3) := by decide +kernel
theorem dX11_branch_233 : decode cX11_branch 233 = .ok (.iconst 1, 1) := by decide +kernel
theorem dX11_branch_234 : decode cX11_branch 234 = .ok (.goto 4, 3) := by decide +kernel
theorem dX11_branch_237 : decode cX11_branch 237 = .ok (.iconst 0, 1) := by decide +kernel
theorem dX11_branch_238 : decode cX11_branch 238 = .ok (.ireturn, 1) := by decide +kernel
theorem dX11_build_0 : decode cX11_build 0 = .ok (.aload_n 0, 1) := by decide +kernel
theorem dX11_build_1 : decode cX11_build 1 = .ok (.getfield 9, 3) := by decide +kernel
theorem dX11_build_4 : decode cX11_build 4 = .ok (.iconst 1, 1) := by decide +kernel
theorem dX11_build_5 : decode cX11_build 5 = .ok (.invokevirtual 120, 3) := by decide +kernel
theorem dX11_build_8 : decode cX11_build 8 = .ok (.aload_n 0, 1) := by decide +kernel
theorem dX11_build_9 : decode cX11_build 9 = .ok (.getfield 19, 3) := by decide +kernel
theorem dX11_build_12 : decode cX11_build 12 = .ok (.aload_n 0, 1) := by decide +kernel
theorem dX11_build_13 : decode cX11_build 13 = .ok (.getfield 9, 3) := by decide +kernel
theorem dX11_build_16 : decode cX11_build 16 = .ok (.getfield 167, 3) := by decide +kernel
theorem dX11_build_19 : decode cX11_build 19 = .ok (.aload_n 0, 1) := by decide +kernel
theorem dX11_build_20 : decode cX11_build 20 = .ok (.getfield 9, 3) := by decide +kernel
theorem dX11_build_23 : decode cX11_build 23 = .ok (.getfield 93, 3) := by decide +kernel
theorem dX11_build_26 : decode cX11_build 26 = .ok (.iaload, 1) := by decide +kernel
theorem dX11_build_27 : decode cX11_build 27 = .ok (.iconst 2, 1) := by decide +kernel
theorem dX11_build_28 : decode cX11_build 28 = .ok (.invokevirtual 381, 3) := by decide +kernel
theorem dX11_build_31 : decode cX11_build 31 = .ok (.istore_n 3, 1) := by decide +kernel
theorem dX11_build_32 : decode cX11_build 32 = .ok (.iload_n 3, 1) := by decide +kernel
theorem dX11_build_33 : decode cX11_build 33 = .ok (.ifCond .ge 19, 3) := by decide +kernel
theorem dX11_build_36 : decode cX11_build 36 = .ok (.aload_n 0, 1) := by decide +kernel
theorem dX11_build_37 : decode cX11_build 37 = .ok (.getfield 9, 3) := by decide +kernel
theorem dX11_build_40 : decode cX11_build 40 = .ok (.iconst 3, 1) := by decide +kernel
theorem dX11_build_41 : decode cX11_build 41 = .ok (.aload_n 0, 1) := by decide +kernel
theorem dX11_build_42 : decode cX11_build 42 = .ok (.getfield 9, 3) := by decide +kernel
theorem dX11_build_45 : decode cX11_build 45 = .ok (.invokevirtual 138, 3) := by decide +kernel
theorem dX11_build_48 : decode cX11_build 48 = .ok (.invokevirtual 106, 3) := by decide +kernel
theorem dX11_build_51 : decode cX11_build 51 = .ok (.return_, 1) := by decide +kernel
theorem dX11_build_52 : decode cX11_build 52 = .ok (.aload_n 0, 1) := by decide +kernel
theorem dX11_build_53 : decode cX11_build 53 = .ok (.getfield 15, 3) := by decide +kernel
theorem dX11_build_56 : decode cX11_build 56 = .ok (.iload_n 3, 1) := by decide +kernel
theorem dX11_build_57 : decode cX11_build 57 = .ok (.iconst 0, 1) := by decide +kernel
theorem dX11_build_58 : decode cX11_build 58 = .ok (.invokevirtual 240, 3) := by decide +kernel
theorem dX11_build_61 : decode cX11_build 61 = .ok (.istore 4, 2) := by decide +kernel
theorem dX11_build_63 : decode cX11_build 63 = .ok (.aload_n 0, 1) := by decide +kernel
theorem dX11_build_64 : decode cX11_build 64 = .ok (.getfield 15, 3) := by decide +kernel
theorem dX11_build_67 : decode cX11_build 67 = .ok (.getfield 63, 3) := by decide +kernel
theorem dX11_build_70 : decode cX11_build 70 = .ok (.iconst 4, 1) := by decide +kernel
theorem dX11_build_71 : decode cX11_build 71 = .ok (.iload_n 3, 1) := by decide +kernel
theorem dX11_build_72 : decode cX11_build 72 = .ok (.iadd, 1) := by decide +kernel
theorem dX11_build_73 : decode cX11_build 73 = .ok (.iaload, 1) := by decide +kernel
theorem dX11_build_74 : decode cX11_build 74 = .ok (.istore 5, 2) := by decide +kernel
theorem dX11_build_76 : decode cX11_build 76 = .ok (.iconst 0, 1) := by decide +kernel
theorem dX11_build_77 : decode cX11_build 77 = .ok (.istore 6, 2) := by decide +kernel
theorem dX11_build_79 : decode cX11_build 79 = .ok (.aload_n 0, 1) := by decide +kernel
theorem dX11_build_80 : decode cX11_build 80 = .ok (.getfield 9, 3) := by decide +kernel
theorem dX11_build_83 : decode cX11_build 83 = .ok (.iconst 2, 1) := by decide +kernel
theorem dX11_build_84 : decode cX11_build 84 = .ok (.invokevirtual 120, 3) := by decide +kernel
theorem dX11_build_87 : decode cX11_build 87 = .ok (.aload_n 0, 1) := by decide +kernel
theorem dX11_build_88 : decode cX11_build 88 = .ok (.getfield 23, 3) := by decide +kernel
theorem dX11_build_91 : decode cX11_build 91 = .ok (.bipush 9, 2) := by decide +kernel
theorem dX11_build_93 : decode cX11_build 93 = .ok (.iload 5, 2) := by decide +kernel
theorem dX11_build_95 : decode cX11_build 95 = .ok (.invokevirtual 141, 3) := by decide +kernel
theorem dX11_build_98 : decode cX11_build 98 = .ok (.iconst 0, 1) := by decide +kernel
theorem dX11_build_99 : decode cX11_build 99 = .ok (.istore 7, 2) := by decide +kernel
theorem dX11_build_101 : decode cX11_build 101 = .ok (.iload 7, 2) := by decide +kernel
theorem dX11_build_103 : decode cX11_build 103 = .ok (.sipush 3002, 3) := by decide +kernel
theorem dX11_build_106 : decode cX11_build 106 = .ok (.if_icmp .ge 172, 3) := by decide +kernel
theorem dX11_build_109 : decode cX11_build 109 = .ok (.aload_n 0, 1) := by decide +kernel
theorem dX11_build_110 : decode cX11_build 110 = .ok (.getfield 9, 3) := by decide +kernel
theorem dX11_build_113 : decode cX11_build 113 = .ok (.invokevirtual 124, 3) := by decide +kernel
theorem dX11_build_116 : decode cX11_build 116 = .ok (.iconst 2, 1) := by decide +kernel
theorem dX11_build_117 : decode cX11_build 117 = .ok (.if_icmp .ne 161, 3) := by decide +kernel
theorem dX11_build_120 : decode cX11_build 120 = .ok (.aload_n 0, 1) := by decide +kernel
theorem dX11_build_121 : decode cX11_build 121 = .ok (.getfield 15, 3) := by decide +kernel
theorem dX11_build_124 : decode cX11_build 124 = .ok (.iload 4, 2) := by decide +kernel
theorem dX11_build_126 : decode cX11_build 126 = .ok (.aload_n 0, 1) := by decide +kernel
theorem dX11_build_127 : decode cX11_build 127 = .ok (.getfield 9, 3) := by decide +kernel
theorem dX11_build_130 : decode cX11_build 130 = .ok (.getfield 167, 3) := by decide +kernel
theorem dX11_build_133 : decode cX11_build 133 = .ok (.aload_n 0, 1) := by decide +kernel
theorem dX11_build_134 : decode cX11_build 134 = .ok (.getfield 9, 3) := by decide +kernel
theorem dX11_build_137 : decode cX11_build 137 = .ok (.getfield 93, 3) := by decide +kernel
theorem dX11_build_140 : decode cX11_build 140 = .ok (.iaload, 1) := by decide +kernel
theorem dX11_build_141 : decode cX11_build 141 = .ok (.invokevirtual 342, 3) := by decide +kernel
theorem dX11_build_144 : decode cX11_build 144 = .ok (.istore 8, 2) := by decide +kernel
theorem dX11_build_146 : decode cX11_build 146 = .ok (.iload 8, 2) := by decide +kernel
theorem dX11_build_148 : decode cX11_build 148 = .ok (.ifCond .lt 14, 3) := by decide +kernel
theorem dX11_build_151 : decode cX11_build 151 = .ok (.iload 6, 2) := by decide +kernel
theorem dX11_build_153 : decode cX11_build 153 = .ok (.iload 8, 2) := by decide +kernel
theorem dX11_build_155 : decode cX11_build 155 = .ok (.ishr, 1) := by decide +kernel
theorem dX11_build_156 : decode cX11_build 156 = .ok (.iconst 1, 1) := by decide +kernel
theorem dX11_build_157 : decode cX11_build 157 = .ok (.iand, 1) := by decide +kernel
theorem dX11_build_158 : decode cX11_build 158 = .ok (.iconst 1, 1) := by decide +kernel
theorem dX11_build_159 : decode cX11_build 159 = .ok (.if_icmp .ne 19, 3) := by decide +kernel
theorem dX11_build_162 : decode cX11_build 162 = .ok (.aload_n 0, 1) := by decide +kernel
theorem dX11_build_163 : decode cX11_build 163 = .ok (.getfield 9, 3) := by decide +kernel
theorem dX11_build_166 : decode cX11_build 166 = .ok (.iconst 3, 1) := by decide +kernel
theorem dX11_build_167 : decode cX11_build 167 = .ok (.aload_n 0, 1) := by decide +kernel
theorem dX11_build_168 : decode cX11_build 168 = .ok (.getfield 9, 3) := by decide +kernel
theorem dX11_build_171 : decode cX11_build 171 = .ok (.invokevirtual 138, 3) := by decide +kernel
theorem dX11_build_174 : decode cX11_build 174 = .ok (.invokevirtual 106, 3) := by decide +kernel
theorem dX11_build_177 : decode cX11_build 177 = .ok (.return_, 1) := by decide +kernel
theorem dX11_build_178 : decode cX11_build 178 = .ok (.iload 6, 2) := by decide +kernel
theorem dX11_build_180 : decode cX11_build 180 = .ok (.iconst 1, 1) := by decide +kernel
theorem dX11_build_181 : decode cX11_build 181 = .ok (.iload 8, 2) := by decide +kernel
theorem dX11_build_183 : decode cX11_build 183 = .ok (.ishl, 1) := by decide +kernel
theorem dX11_build_184 : decode cX11_build 184 = .ok (.ior, 1) := by decide +kernel
theorem dX11_build_185 : decode cX11_build 185 = .ok (.istore 6, 2) := by decide +kernel
theorem dX11_build_187 : decode cX11_build 187 = .ok (.aload_n 0, 1) := by decide +kernel
theorem dX11_build_188 : decode cX11_build 188 = .ok (.getfield 9, 3) := by decide +kernel
theorem dX11_build_191 : decode cX11_build 191 = .ok (.iconst 2, 1) := by decide +kernel
theorem dX11_build_192 : decode cX11_build 192 = .ok (.invokevirtual 120, 3) := by decide +kernel
theorem dX11_build_195 : decode cX11_build 195 = .ok (.iload 4, 2) := by decide +kernel
theorem dX11_build_197 : decode cX11_build 197 = .ok (.bipush 12, 2) := by decide +kernel
theorem dX11_build_199 : decode cX11_build 199 = .ok (.imul, 1) := by decide +kernel
theorem dX11_build_200 : decode cX11_build 200 = .ok (.iload 8, 2) := by decide +kernel
theorem dX11_build_202 : decode cX11_build 202 = .ok (.iadd, 1) := by decide +kernel
theorem dX11_build_203 : decode cX11_build 203 = .ok (.istore 9, 2) := by decide +kernel
theorem dX11_build_205 : decode cX11_build 205 = .ok (.aload_n 0, 1) := by decide +kernel
theorem dX11_build_206 : decode cX11_build 206 = .ok (.aload_n 0, 1) := by decide +kernel
theorem dX11_build_207 : decode cX11_build 207 = .ok (.getfield 15, 3) := by decide +kernel
theorem dX11_build_210 : decode cX11_build 210 = .ok (.getfield 250, 3) := by decide +kernel
theorem dX11_build_213 : decode cX11_build 213 = .ok (.iload 9, 2) := by decide +kernel
theorem dX11_build_215 : decode cX11_build 215 = .ok (.iaload, 1) := by decide +kernel
theorem dX11_build_216 : decode cX11_build 216 = .ok (.iload_n 1, 1) := by decide +kernel
theorem dX11_build_217 : decode cX11_build 217 = .ok (.iconst 1, 1) := by decide +kernel
theorem dX11_build_218 : decode cX11_build 218 = .ok (.iadd, 1) := by decide +kernel
theorem dX11_build_219 : decode cX11_build 219 = .ok (.invokevirtual 200, 3) := by decide +kernel
theorem dX11_build_222 : decode cX11_build 222 = .ok (.aload_n 0, 1) := by decide +kernel
theorem dX11_build_223 : decode cX11_build 223 = .ok (.getfield 23, 3) := by decide +kernel
theorem dX11_build_226 : decode cX11_build 226 = .ok (.bipush 10, 2) := by decide +kernel
theorem dX11_build_228 : decode cX11_build 228 = .ok (.aload_n 0, 1) := by decide +kernel
theorem dX11_build_229 : decode cX11_build 229 = .ok (.getfield 15, 3) := by decide +kernel
theorem dX11_build_232 : decode cX11_build 232 = .ok (.getfield 253, 3) := by decide +kernel
theorem dX11_build_235 : decode cX11_build 235 = .ok (.iload 9, 2) := by decide +kernel
theorem dX11_build_237 : decode cX11_build 237 = .ok (.iaload, 1) := by decide +kernel
theorem dX11_build_238 : decode cX11_build 238 = .ok (.aload_n 0, 1) := by decide +kernel
theorem dX11_build_239 : decode cX11_build 239 = .ok (.getfield 15, 3) := by decide +kernel
theorem dX11_build_242 : decode cX11_build 242 = .ok (.getfield 63, 3) := by decide +kernel
theorem dX11_build_245 : decode cX11_build 245 = .ok (.aload_n 0, 1) := by decide +kernel
theorem dX11_build_246 : decode cX11_build 246 = .ok (.getfield 15, 3) := by decide +kernel
theorem dX11_build_249 : decode cX11_build 249 = .ok (.getfield 250, 3) := by decide +kernel
theorem dX11_build_252 : decode cX11_build 252 = .ok (.iload 9, 2) := by decide +kernel
theorem dX11_build_254 : decode cX11_build 254 = .ok (.iaload, 1) := by decide +kernel
theorem dX11_build_255 : decode cX11_build 255 = .ok (.iaload, 1) := by decide +kernel
theorem dX11_build_256 : decode cX11_build 256 = .ok (.iload 5, 2) := by decide +kernel
theorem dX11_build_258 : decode cX11_build 258 = .ok (.iconst (-1), 1) := by decide +kernel
theorem dX11_build_259 : decode cX11_build 259 = .ok (.invokevirtual 110, 3) := by decide +kernel
theorem dX11_build_262 : decode cX11_build 262 = .ok (.aload_n 0, 1) := by decide +kernel
theorem dX11_build_263 : decode cX11_build 263 = .ok (.getfield 9, 3) := by decide +kernel
theorem dX11_build_266 : decode cX11_build 266 = .ok (.bipush 44, 2) := by decide +kernel
theorem dX11_build_268 : decode cX11_build 268 = .ok (.invokevirtual 164, 3) := by decide +kernel
theorem dX11_build_271 : decode cX11_build 271 = .ok (.pop, 1) := by decide +kernel
theorem dX11_build_272 : decode cX11_build 272 = .ok (.iinc 7 1, 3) := by decide +kernel
theorem dX11_build_275 : decode cX11_build 275 = .ok (.goto (-174), 3) := by decide +kernel
theorem dX11_build_278 : decode cX11_build 278 = .ok (.aload_n 0, 1) := by decide +kernel
theorem dX11_build_279 : decode cX11_build 279 = .ok (.getfield 9, 3) := by decide +kernel
theorem dX11_build_282 : decode cX11_build 282 = .ok (.iconst 1, 1) := by decide +kernel
theorem dX11_build_283 : decode cX11_build 283 = .ok (.invokevirtual 120, 3) := by decide +kernel
theorem dX11_build_286 : decode cX11_build 286 = .ok (.iload 6, 2) := by decide +kernel
theorem dX11_build_288 : decode cX11_build 288 = .ok (.iconst 1, 1) := by decide +kernel
theorem dX11_build_289 : decode cX11_build 289 = .ok (.aload_n 0, 1) := by decide +kernel
theorem dX11_build_290 : decode cX11_build 290 = .ok (.getfield 15, 3) := by decide +kernel
theorem dX11_build_293 : decode cX11_build 293 = .ok (.getfield 243, 3) := by decide +kernel
theorem dX11_build_296 : decode cX11_build 296 = .ok (.iload 4, 2) := by decide +kernel
theorem dX11_build_298 : decode cX11_build 298 = .ok (.iaload, 1) := by decide +kernel
theorem dX11_build_299 : decode cX11_build 299 = .ok (.ishl, 1) := by decide +kernel
theorem dX11_build_300 : decode cX11_build 300 = .ok (.iconst 1, 1) := by decide +kernel
theorem dX11_build_301 : decode cX11_build 301 = .ok (.isub, 1) := by decide +kernel
theorem dX11_build_302 : decode cX11_build 302 = .ok (.if_icmp .eq 12, 3) := by decide +kernel
theorem dX11_build_305 : decode cX11_build 305 = .ok (.aload_n 0, 1) := by decide +kernel
theorem dX11_build_306 : decode cX11_build 306 = .ok (.getfield 9, 3) := by decide +kernel
theorem dX11_build_309 : decode cX11_build 309 = .ok (.iconst 4, 1) := by decide +kernel
theorem dX11_build_310 : decode cX11_build 310 = .ok (.iload_n 2, 1) := by decide +kernel
theorem dX11_build_311 : decode cX11_build 311 = .ok (.invokevirtual 106, 3) := by decide +kernel
theorem dX11_build_314 : decode cX11_build 314 = .ok (.aload_n 0, 1) := by decide +kernel
theorem dX11_build_315 : decode cX11_build 315 = .ok (.iconst 4, 1) := by decide +kernel
theorem dX11_build_316 : decode cX11_build 316 = .ok (.iload_n 3, 1) := by decide +kernel
theorem dX11_build_317 : decode cX11_build 317 = .ok (.iadd, 1) := by decide +kernel
theorem dX11_build_318 : decode cX11_build 318 = .ok (.invokevirtual 311, 3) := by decide +kernel
theorem dX11_build_321 : decode cX11_build 321 = .ok (.return_, 1) := by decide +kernel
theorem dX11_call_0 : decode cX11_call 0 = .ok (.aload_n 0, 1) := by decide +kernel
theorem dX11_call_1 : decode cX11_call 1 = .ok (.getfield 19, 3) := by decide +kernel
theorem dX11_call_4 : decode cX11_call 4 = .ok (.aload_n 0, 1) := by decide +kernel
theorem dX11_call_5 : decode cX11_call 5 = .ok (.getfield 9, 3) := by decide +kernel
theorem dX11_call_8 : decode cX11_call 8 = .ok (.getfield 167, 3) := by decide +kernel
theorem dX11_call_11 : decode cX11_call 11 = .ok (.aload_n 0, 1) := by decide +kernel
theorem dX11_call_12 : decode cX11_call 12 = .ok (.getfield 9, 3) := by decide +kernel
theorem dX11_call_15 : decode cX11_call 15 = .ok (.getfield 93, 3) := by decide +kernel
theorem dX11_call_18 : decode cX11_call 18 = .ok (.iaload, 1) := by decide +kernel
theorem dX11_call_19 : decode cX11_call 19 = .ok (.invokevirtual 378, 3) := by decide +kernel
theorem dX11_call_22 : decode cX11_call 22 = .ok (.istore_n 3, 1) := by decide +kernel
theorem dX11_call_23 : decode cX11_call 23 = .ok (.iload_n 3, 1) := by decide +kernel
theorem dX11_call_24 : decode cX11_call 24 = .ok (.ifCond .ge 13, 3) := by decide +kernel
theorem dX11_call_27 : decode cX11_call 27 = .ok (.aload_n 0, 1) := by decide +kernel
theorem dX11_call_28 : decode cX11_call 28 = .ok (.getfield 9, 3) := by decide +kernel
theorem dX11_call_31 : decode cX11_call 31 = .ok (.iconst 3, 1) := by decide +kernel
theorem dX11_call_32 : decode cX11_call 32 = .ok (.iload_n 2, 1) := by decide +kernel
theorem dX11_call_33 : decode cX11_call 33 = .ok (.invokevirtual 106, 3) := by decide +kernel
theorem dX11_call_36 : decode cX11_call 36 = .ok (.return_, 1) := by decide +kernel
theorem dX11_call_37 : decode cX11_call 37 = .ok (.aload_n 0, 1) := by decide +kernel
theorem dX11_call_38 : decode cX11_call 38 = .ok (.getfield 19, 3) := by decide +kernel
theorem dX11_call_41 : decode cX11_call 41 = .ok (.getfield 43, 3) := by decide +kernel
theorem dX11_call_44 : decode cX11_call 44 = .ok (.iload_n 3, 1) := by decide +kernel
theorem dX11_call_45 : decode cX11_call 45 = .ok (.aaload, 1) := by decide +kernel
theorem dX11_call_46 : decode cX11_call 46 = .ok (.astore 4, 2) := by decide +kernel
theorem dX11_call_48 : decode cX11_call 48 = .ok (.aload_n 0, 1) := by decide +kernel
theorem dX11_call_49 : decode cX11_call 49 = .ok (.getfield 9, 3) := by decide +kernel
theorem dX11_call_52 : decode cX11_call 52 = .ok (.iconst 1, 1) := by decide +kernel
theorem dX11_call_53 : decode cX11_call 53 = .ok (.invokevirtual 120, 3) := by decide +kernel
theorem dX11_call_56 : decode cX11_call 56 = .ok (.aload_n 0, 1) := by decide +kernel
theorem dX11_call_57 : decode cX11_call 57 = .ok (.getfield 9, 3) := by decide +kernel
theorem dX11_call_60 : decode cX11_call 60 = .ok (.getfield 181, 3) := by decide +kernel
theorem dX11_call_63 : decode cX11_call 63 = .ok (.aload_n 0, 1) := by decide +kernel
theorem dX11_call_64 : decode cX11_call 64 = .ok (.getfield 9, 3) := by decide +kernel
theorem dX11_call_67 : decode cX11_call 67 = .ok (.getfield 93, 3) := by decide +kernel
theorem dX11_call_70 : decode cX11_call 70 = .ok (.iaload, 1) := by decide +kernel
theorem dX11_call_71 : decode cX11_call 71 = .ok (.aload 4, 2) := by decide +kernel
theorem dX11_call_73 : decode cX11_call 73 = .ok (.getfield 54, 3) := by decide +kernel
theorem dX11_call_76 : decode cX11_call 76 = .ok (.if_icmp .eq 12, 3) := by decide +kernel
theorem dX11_call_79 : decode cX11_call 79 = .ok (.aload_n 0, 1) := by decide +kernel
theorem dX11_call_80 : decode cX11_call 80 = .ok (.getfield 9, 3) := by decide +kernel
theorem dX11_call_83 : decode cX11_call 83 = .ok (.iconst 4, 1) := by decide +kernel
theorem dX11_call_84 : decode cX11_call 84 = .ok (.iload_n 2, 1) := by decide +kernel
theorem dX11_call_85 : decode cX11_call 85 = .ok (.invokevirtual 106, 3) := by decide +kernel
theorem dX11_call_88 : decode cX11_call 88 = .ok (.aload_n 0, 1) := by decide +kernel
theorem dX11_call_89 : decode cX11_call 89 = .ok (.getfield 9, 3) := by decide +kernel
theorem dX11_call_92 : decode cX11_call 92 = .ok (.iconst 1, 1) := by decide +kernel
theorem dX11_call_93 : decode cX11_call 93 = .ok (.invokevirtual 120, 3) := by decide +kernel
theorem dX11_call_96 : decode cX11_call 96 = .ok (.iconst 0, 1) := by decide +kernel
theorem dX11_call_97 : decode cX11_call 97 = .ok (.istore 5, 2) := by decide +kernel
theorem dX11_call_99 : decode cX11_call 99 = .ok (.iload 5, 2) := by decide +kernel
theorem dX11_call_101 : decode cX11_call 101 = .ok (.aload 4, 2) := by decide +kernel
theorem dX11_call_103 : decode cX11_call 103 = .ok (.getfield 54, 3) := by decide +kernel
theorem dX11_call_106 : decode cX11_call 106 = .ok (.if_icmp .ge 44, 3) := by decide +kernel
theorem dX11_call_109 : decode cX11_call 109 = .ok (.aload_n 0, 1) := by decide +kernel
theorem dX11_call_110 : decode cX11_call 110 = .ok (.getfield 9, 3) := by decide +kernel
theorem dX11_call_113 : decode cX11_call 113 = .ok (.getfield 38, 3) := by decide +kernel
theorem dX11_call_116 : decode cX11_call 116 = .ok (.ifCond .ne 34, 3) := by decide +kernel
theorem dX11_call_119 : decode cX11_call 119 = .ok (.aload_n 0, 1) := by decide +kernel
theorem dX11_call_120 : decode cX11_call 120 = .ok (.aload 4, 2) := by decide +kernel
theorem dX11_call_122 : decode cX11_call 122 = .ok (.getfield 59, 3) := by decide +kernel
theorem dX11_call_125 : decode cX11_call 125 = .ok (.iload 5, 2) := by decide +kernel
theorem dX11_call_127 : decode cX11_call 127 = .ok (.iaload, 1) := by decide +kernel
theorem dX11_call_128 : decode cX11_call 128 = .ok (.iload_n 1, 1) := by decide +kernel
theorem dX11_call_129 : decode cX11_call 129 = .ok (.iconst 1, 1) := by decide +kernel
theorem dX11_call_130 : decode cX11_call 130 = .ok (.iadd, 1) := by decide +kernel
theorem dX11_call_131 : decode cX11_call 131 = .ok (.invokevirtual 200, 3) := by decide +kernel
theorem dX11_call_134 : decode cX11_call 134 = .ok (.aload_n 0, 1) := by decide +kernel
theorem dX11_call_135 : decode cX11_call 135 = .ok (.getfield 9, 3) := by decide +kernel
theorem dX11_call_138 : decode cX11_call 138 = .ok (.bipush 44, 2) := by decide +kernel
theorem dX11_call_140 : decode cX11_call 140 = .ok (.invokevirtual 164, 3) := by decide +kernel
theorem dX11_call_143 : decode cX11_call 143 = .ok (.pop, 1) := by decide +kernel
theorem dX11_call_144 : decode cX11_call 144 = .ok (.iinc 5 1, 3) := by decide +kernel
theorem dX11_call_147 : decode cX11_call 147 = .ok (.goto (-48), 3) := by decide +kernel
theorem dX11_call_150 : decode cX11_call 150 = .ok (.aload_n 0, 1) := by decide +kernel
theorem dX11_call_151 : decode cX11_call 151 = .ok (.getfield 9, 3) := by decide +kernel
theorem dX11_call_154 : decode cX11_call 154 = .ok (.iconst 1, 1) := by decide +kernel
theorem dX11_call_155 : decode cX11_call 155 = .ok (.invokevirtual 120, 3) := by decide +kernel
theorem dX11_call_158 : decode cX11_call 158 = .ok (.aload_n 0, 1) := by decide +kernel
theorem dX11_call_159 : decode cX11_call 159 = .ok (.getfield 23, 3) := by decide +kernel
theorem dX11_call_162 : decode cX11_call 162 = .ok (.bipush 21, 2) := by decide +kernel
theorem dX11_call_164 : decode cX11_call 164 = .ok (.iload_n 3, 1) := by decide +kernel
theorem dX11_call_165 : decode cX11_call 165 = .ok (.invokevirtual 141, 3) := by decide +kernel
theorem dX11_call_168 : decode cX11_call 168 = .ok (.aload_n 0, 1) := by decide +kernel
theorem dX11_call_169 : decode cX11_call 169 = .ok (.aload 4, 2) := by decide +kernel
theorem dX11_call_171 : decode cX11_call 171 = .ok (.getfield 103, 3) := by decide +kernel
theorem dX11_call_174 : decode cX11_call 174 = .ok (.invokevirtual 311, 3) := by decide +kernel
theorem dX11_call_177 : decode cX11_call 177 = .ok (.return_, 1) := by decide +kernel
theorem dX11_condition_0 : decode cX11_condition 0 = .ok (.aload_n 0, 1) := by decide +kernel
theorem dX11_condition_1 : decode cX11_condition 1 = .ok (.iconst 2, 1) := by decide +kernel
theorem dX11_condition_2 : decode cX11_condition 2 = .ok (.iload_n 1, 1) := by decide +kernel
theorem dX11_condition_3 : decode cX11_condition 3 = .ok (.invokevirtual 200, 3) := by decide +kernel
theorem dX11_condition_6 : decode cX11_condition 6 = .ok (.return_, 1) := by decide +kernel
theorem dX11_fitting_0 : decode cX11_fitting 0 = .ok (.aload_n 0, 1) := by decide +kernel
theorem dX11_fitting_1 : decode cX11_fitting 1 = .ok (.getfield 9, 3) := by decide +kernel
theorem dX11_fitting_4 : decode cX11_fitting 4 = .ok (.invokevirtual 138, 3) := by decide +kernel
theorem dX11_fitting_7 : decode cX11_fitting 7 = .ok (.istore_n 3, 1) := by decide +kernel
theorem dX11_fitting_8 : decode cX11_fitting 8 = .ok (.aload_n 0, 1) := by decide +kernel
theorem dX11_fitting_9 : decode cX11_fitting 9 = .ok (.iload_n 2, 1) := by decide +kernel
theorem dX11_fitting_10 : decode cX11_fitting 10 = .ok (.invokevirtual 173, 3) := by decide +kernel
theorem dX11_fitting_13 : decode cX11_fitting 13 = .ok (.istore 4, 2) := by decide +kernel
theorem dX11_fitting_15 : decode cX11_fitting 15 = .ok (.iload 4, 2) := by decide +kernel
theorem dX11_fitting_17 : decode cX11_fitting 17 = .ok (.iload_n 1, 1) := by decide +kernel
theorem dX11_fitting_18 : decode cX11_fitting 18 = .ok (.if_icmp .eq 12, 3) := by decide +kernel
theorem dX11_fitting_21 : decode cX11_fitting 21 = .ok (.aload_n 0, 1) := by decide +kernel
theorem dX11_fitting_22 : decode cX11_fitting 22 = .ok (.getfield 9, 3) := by decide +kernel
theorem dX11_fitting_25 : decode cX11_fitting 25 = .ok (.iconst 4, 1) := by decide +kernel
theorem dX11_fitting_26 : decode cX11_fitting 26 = .ok (.iload_n 3, 1) := by decide +kernel
theorem dX11_fitting_27 : decode cX11_fitting 27 = .ok (.invokevirtual 106, 3) := by decide +kernel
theorem dX11_fitting_30 : decode cX11_fitting 30 = .ok (.return_, 1) := by decide +kernel
theorem dX11_give_0 : decode cX11_give 0 = .ok (.aload_n 0, 1) := by decide +kernel
theorem dX11_give_1 : decode cX11_give 1 = .ok (.iconst 0, 1) := by decide +kernel
theorem dX11_give_2 : decode cX11_give 2 = .ok (.putfield 285, 3) := by decide +kernel
theorem dX11_give_5 : decode cX11_give 5 = .ok (.aload_n 0, 1) := by decide +kernel
theorem dX11_give_6 : decode cX11_give 6 = .ok (.iload_n 1, 1) := by decide +kernel
theorem dX11_give_7 : decode cX11_give 7 = .ok (.putfield 214, 3) := by decide +kernel
theorem dX11_give_10 : decode cX11_give 10 = .ok (.return_, 1) := by decide +kernel
theorem dX11_giveBack_0 : decode cX11_giveBack 0 = .ok (.aload_n 0, 1) := by decide +kernel
theorem dX11_giveBack_1 : decode cX11_giveBack 1 = .ok (.getfield 9, 3) := by decide +kernel
theorem dX11_giveBack_4 : decode cX11_giveBack 4 = .ok (.invokevirtual 138, 3) := by decide +kernel
theorem dX11_giveBack_7 : decode cX11_giveBack 7 = .ok (.istore_n 2, 1) := by decide +kernel
theorem dX11_giveBack_8 : decode cX11_giveBack 8 = .ok (.iconst 0, 1) := by decide +kernel
theorem dX11_giveBack_9 : decode cX11_giveBack 9 = .ok (.istore_n 3, 1) := by decide +kernel
theorem dX11_giveBack_10 : decode cX11_giveBack 10 = .ok (.iconst (-1), 1) := by decide +kernel
theorem dX11_giveBack_11 : decode cX11_giveBack 11 = .ok (.istore 4, 2) := by decide +kernel
theorem dX11_giveBack_13 : decode cX11_giveBack 13 = .ok (.aload_n 0, 1) := by decide +kernel
theorem dX11_giveBack_14 : decode cX11_giveBack 14 = .ok (.getfield 9, 3) := by decide +kernel
theorem dX11_giveBack_17 : decode cX11_giveBack 17 = .ok (.iconst 1, 1) := by decide +kernel
theorem dX11_giveBack_18 : decode cX11_giveBack 18 = .ok (.invokevirtual 120, 3) := by decide +kernel
theorem dX11_giveBack_21 : decode cX11_giveBack 21 = .ok (.aload_n 0, 1) := by decide +kernel
theorem dX11_giveBack_22 : decode cX11_giveBack 22 = .ok (.getfield 9, 3) := by decide +kernel
theorem dX11_giveBack_25 : decode cX11_giveBack 25 = .ok (.invokevirtual 124, 3) := by decide +kernel
theorem dX11_giveBack_28 : decode cX11_giveBack 28 = .ok (.bipush 59, 2) := by decide +kernel
theorem dX11_giveBack_30 : decode cX11_giveBack 30 = .ok (.if_icmp .eq 7, 3) := by decide +kernel
theorem dX11_giveBack_33 : decode cX11_giveBack 33 = .ok (.iconst 1, 1) := by decide +kernel
theorem dX11_giveBack_34 : decode cX11_giveBack 34 = .ok (.goto 4, 3) := by decide +kernel
theorem dX11_giveBack_37 : decode cX11_giveBack 37 = .ok (.iconst 0, 1) := by decide +kernel
theorem dX11_giveBack_38 : decode cX11_giveBack 38 = .ok (.istore 5, 2) := by decide +kernel
theorem dX11_giveBack_40 : decode cX11_giveBack 40 = .ok (.iload 5, 2) := by decide +kernel
theorem dX11_giveBack_42 : decode cX11_giveBack 42 = .ok (.ifCond .eq 18, 3) := by decide +kernel
theorem dX11_giveBack_45 : decode cX11_giveBack 45 = .ok (.aload_n 0, 1) := by decide +kernel
theorem dX11_giveBack_46 : decode cX11_giveBack 46 = .ok (.getfield 9, 3) := by decide +kernel
theorem dX11_giveBack_49 : decode cX11_giveBack 49 = .ok (.invokevirtual 138, 3) := by decide +kernel
theorem dX11_giveBack_52 : decode cX11_giveBack 52 = .ok (.istore 4, 2) := by decide +kernel
theorem dX11_giveBack_54 : decode cX11_giveBack 54 = .ok (.aload_n 0, 1) := by decide +kernel
theorem dX11_giveBack_55 : decode cX11_giveBack 55 = .ok (.iload_n 1, 1) := by decide +kernel
theorem dX11_giveBack_56 : decode cX11_giveBack 56 = .ok (.invokevirtual 173, 3) := by decide +kernel
theorem dX11_giveBack_59 : decode cX11_giveBack 59 = .ok (.istore_n 3, 1) := by decide +kernel
theorem dX11_giveBack_60 : decode cX11_giveBack 60 = .ok (.iload_n 3, 1) := by decide +kernel
theorem dX11_giveBack_61 : decode cX11_giveBack 61 = .ok (.aload_n 0, 1) := by decide +kernel
theorem dX11_giveBack_62 : decode cX11_giveBack 62 = .ok (.getfield 47, 3) := by decide +kernel
theorem dX11_giveBack_65 : decode cX11_giveBack 65 = .ok (.getfield 103, 3) := by decide +kernel
theorem dX11_giveBack_68 : decode cX11_giveBack 68 = .ok (.if_icmp .eq 22, 3) := by decide +kernel
theorem dX11_giveBack_71 : decode cX11_giveBack 71 = .ok (.aload_n 0, 1) := by decide +kernel
theorem dX11_giveBack_72 : decode cX11_giveBack 72 = .ok (.getfield 9, 3) := by decide +kernel
theorem dX11_giveBack_75 : decode cX11_giveBack 75 = .ok (.iconst 4, 1) := by decide +kernel
theorem dX11_giveBack_76 : decode cX11_giveBack 76 = .ok (.iload 5, 2) := by decide +kernel
theorem dX11_giveBack_78 : decode cX11_giveBack 78 = .ok (.ifCond .eq 8, 3) := by decide +kernel
theorem dX11_giveBack_81 : decode cX11_giveBack 81 = .ok (.iload 4, 2) := by decide +kernel
theorem dX11_giveBack_83 : decode cX11_giveBack 83 = .ok (.goto 4, 3) := by decide +kernel
theorem dX11_giveBack_86 : decode cX11_giveBack 86 = .ok (.iload_n 2, 1) := by decide +kernel
theorem dX11_giveBack_87 : decode cX11_giveBack 87 = .ok (.invokevirtual 106, 3) := by decide +kernel
theorem dX11_giveBack_90 : decode cX11_giveBack 90 = .ok (.aload_n 0, 1) := by decide +kernel
theorem dX11_giveBack_91 : decode cX11_giveBack 91 = .ok (.getfield 23, 3) := by decide +kernel
theorem dX11_giveBack_94 : decode cX11_giveBack 94 = .ok (.bipush 22, 2) := by decide +kernel
theorem dX11_giveBack_96 : decode cX11_giveBack 96 = .ok (.iload_n 3, 1) := by decide +kernel
theorem dX11_giveBack_97 : decode cX11_giveBack 97 = .ok (.iload 5, 2) := by decide +kernel
theorem dX11_giveBack_99 : decode cX11_giveBack 99 = .ok (.ifCond .eq 7, 3) := by decide +kernel
theorem dX11_giveBack_102 : decode cX11_giveBack 102 = .ok (.iconst 1, 1) := by decide +kernel
theorem dX11_giveBack_103 : decode cX11_giveBack 103 = .ok (.goto 4, 3) := by decide +kernel
theorem dX11_giveBack_106 : decode cX11_giveBack 106 = .ok (.iconst 0, 1) := by decide +kernel
theorem dX11_giveBack_107 : decode cX11_giveBack 107 = .ok (.iload 4, 2) := by decide +kernel
theorem dX11_giveBack_109 : decode cX11_giveBack 109 = .ok (.iload_n 2, 1) := by decide +kernel
theorem dX11_giveBack_110 : decode cX11_giveBack 110 = .ok (.invokevirtual 110, 3) := by decide +kernel
theorem dX11_giveBack_113 : decode cX11_giveBack 113 = .ok (.aload_n 0, 1) := by decide +kernel
theorem dX11_giveBack_114 : decode cX11_giveBack 114 = .ok (.getfield 9, 3) := by decide +kernel
theorem dX11_giveBack_117 : decode cX11_giveBack 117 = .ok (.iconst 1, 1) := by decide +kernel
theorem dX11_giveBack_118 : decode cX11_giveBack 118 = .ok (.invokevirtual 120, 3) := by decide +kernel
theorem dX11_giveBack_121 : decode cX11_giveBack 121 = .ok (.iconst 1, 1) := by decide +kernel
theorem dX11_giveBack_122 : decode cX11_giveBack 122 = .ok (.ireturn, 1) := by decide +kernel
theorem dX11_init_0 : decode cX11_init 0 = .ok (.aload_n 0, 1) := by decide +kernel
theorem dX11_init_1 : decode cX11_init 1 = .ok (.invokespecial 3, 3) := by decide +kernel
theorem dX11_init_4 : decode cX11_init 4 = .ok (.aload_n 0, 1) := by decide +kernel
theorem dX11_init_5 : decode cX11_init 5 = .ok (.aload_n 1, 1) := by decide +kernel
theorem dX11_init_6 : decode cX11_init 6 = .ok (.putfield 9, 3) := by decide +kernel
theorem dX11_init_9 : decode cX11_init 9 = .ok (.aload_n 0, 1) := by decide +kernel
theorem dX11_init_10 : decode cX11_init 10 = .ok (.aload_n 2, 1) := by decide +kernel
theorem dX11_init_11 : decode cX11_init 11 = .ok (.putfield 15, 3) := by decide +kernel
theorem dX11_init_14 : decode cX11_init 14 = .ok (.aload_n 0, 1) := by decide +kernel
theorem dX11_init_15 : decode cX11_init 15 = .ok (.aload_n 3, 1) := by decide +kernel
theorem dX11_init_16 : decode cX11_init 16 = .ok (.putfield 19, 3) := by decide +kernel
theorem dX11_init_19 : decode cX11_init 19 = .ok (.aload_n 0, 1) := by decide +kernel
theorem dX11_init_20 : decode cX11_init 20 = .ok (.aload 4, 2) := by decide +kernel
theorem dX11_init_22 : decode cX11_init 22 = .ok (.putfield 23, 3) := by decide +kernel
theorem dX11_init_25 : decode cX11_init 25 = .ok (.return_, 1) := by decide +kernel
theorem dX11_isMovable_0 : decode cX11_isMovable 0 = .ok (.aload_n 0, 1) := by decide +kernel
theorem dX11_isMovable_1 : decode cX11_isMovable 1 = .ok (.getfield 278, 3) := by decide +kernel
theorem dX11_isMovable_4 : decode cX11_isMovable 4 = .ok (.bipush 15, 2) := by decide +kernel
theorem dX11_isMovable_6 : decode cX11_isMovable 6 = .ok (.iand, 1) := by decide +kernel
theorem dX11_isMovable_7 : decode cX11_isMovable 7 = .ok (.istore_n 1, 1) := by decide +kernel
theorem dX11_isMovable_8 : decode cX11_isMovable 8 = .ok (.aload_n 0, 1) := by decide +kernel
theorem dX11_isMovable_9 : decode cX11_isMovable 9 = .ok (.getfield 263, 3) := by decide +kernel
theorem dX11_isMovable_12 : decode cX11_isMovable 12 = .ok (.ifCond .le 25, 3) := by decide +kernel
theorem dX11_isMovable_15 : decode cX11_isMovable 15 = .ok (.aload_n 0, 1) := by decide +kernel
theorem dX11_isMovable_16 : decode cX11_isMovable 16 = .ok (.getfield 275, 3) := by decide +kernel
theorem dX11_isMovable_19 : decode cX11_isMovable 19 = .ok (.iconst 4, 1) := by decide +kernel
theorem dX11_isMovable_20 : decode cX11_isMovable 20 = .ok (.aload_n 0, 1) := by decide +kernel
theorem dX11_isMovable_21 : decode cX11_isMovable 21 = .ok (.getfield 263, 3) := by decide +kernel
theorem dX11_isMovable_24 : decode cX11_isMovable 24 = .ok (.iconst 1, 1) := by decide +kernel
theorem dX11_isMovable_25 : decode cX11_isMovable 25 = .ok (.isub, 1) := by decide +kernel
theorem dX11_isMovable_26 : decode cX11_isMovable 26 = .ok (.imul, 1) := by decide +kernel
theorem dX11_isMovable_27 : decode cX11_isMovable 27 = .ok (.ishr, 1) := by decide +kernel
theorem dX11_isMovable_28 : decode cX11_isMovable 28 = .ok (.bipush 13, 2) := by decide +kernel
theorem dX11_isMovable_30 : decode cX11_isMovable 30 = .ok (.if_icmp .ne 7, 3) := by decide +kernel
theorem dX11_isMovable_33 : decode cX11_isMovable 33 = .ok (.iconst 1, 1) := by decide +kernel
theorem dX11_isMovable_34 : decode cX11_isMovable 34 = .ok (.goto 4, 3) := by decide +kernel
theorem dX11_isMovable_37 : decode cX11_isMovable 37 = .ok (.iconst 0, 1) := by decide +kernel
theorem dX11_isMovable_38 : decode cX11_isMovable 38 = .ok (.istore_n 2, 1) := by decide +kernel
theorem dX11_isMovable_39 : decode cX11_isMovable 39 = .ok (.iload_n 1, 1) := by decide +kernel
theorem dX11_isMovable_40 : decode cX11_isMovable 40 = .ok (.ifCond .eq 34, 3) := by decide +kernel
theorem dX11_isMovable_43 : decode cX11_isMovable 43 = .ok (.iload_n 1, 1) := by decide +kernel
theorem dX11_isMovable_44 : decode cX11_isMovable 44 = .ok (.iconst 1, 1) := by decide +kernel
theorem dX11_isMovable_45 : decode cX11_isMovable 45 = .ok (.if_icmp .ne 33, 3) := by decide +kernel
theorem dX11_isMovable_48 : decode cX11_isMovable 48 = .ok (.iload_n 2, 1) := by decide +kernel
theorem dX11_isMovable_49 : decode cX11_isMovable 49 = .ok (.ifCond .eq 29, 3) := by decide +kernel
theorem dX11_isMovable_52 : decode cX11_isMovable 52 = .ok (.aload_n 0, 1) := by decide +kernel
theorem dX11_isMovable_53 : decode cX11_isMovable 53 = .ok (.getfield 15, 3) := by decide +kernel
theorem dX11_isMovable_56 : decode cX11_isMovable 56 = .ok (.aload_n 0, 1) := by decide +kernel
theorem dX11_isMovable_57 : decode cX11_isMovable 57 = .ok (.getfield 47, 3) := by decide +kernel
theorem dX11_isMovable_60 : decode cX11_isMovable 60 = .ok (.getfield 59, 3) := by decide +kernel
theorem dX11_isMovable_63 : decode cX11_isMovable 63 = .ok (.aload_n 0, 1) := by decide +kernel
theorem dX11_isMovable_64 : decode cX11_isMovable 64 = .ok (.getfield 272, 3) := by decide +kernel
theorem dX11_isMovable_67 : decode cX11_isMovable 67 = .ok (.iaload, 1) := by decide +kernel
theorem dX11_isMovable_68 : decode cX11_isMovable 68 = .ok (.invokevirtual 299, 3) := by decide +kernel
theorem dX11_isMovable_71 : decode cX11_isMovable 71 = .ok (.ifCond .ne 7, 3) := by decide +kernel
theorem dX11_isMovable_74 : decode cX11_isMovable 74 = .ok (.iconst 1, 1) := by decide +kernel
theorem dX11_isMovable_75 : decode cX11_isMovable 75 = .ok (.goto 4, 3) := by decide +kernel
theorem dX11_isMovable_78 : decode cX11_isMovable 78 = .ok (.iconst 0, 1) := by decide +kernel
theorem dX11_isMovable_79 : decode cX11_isMovable 79 = .ok (.ireturn, 1) := by decide +kernel
theorem dX11_lend_0 : decode cX11_lend 0 = .ok (.iload_n 1, 1) := by decide +kernel
theorem dX11_lend_1 : decode cX11_lend 1 = .ok (.ifCond .eq 22, 3) := by decide +kernel
theorem dX11_lend_4 : decode cX11_lend 4 = .ok (.aload_n 0, 1) := by decide +kernel
theorem dX11_lend_5 : decode cX11_lend 5 = .ok (.getfield 266, 3) := by decide +kernel
theorem dX11_lend_8 : decode cX11_lend 8 = .ok (.ifCond .ne 15, 3) := by decide +kernel
theorem dX11_lend_11 : decode cX11_lend 11 = .ok (.aload_n 0, 1) := by decide +kernel
theorem dX11_lend_12 : decode cX11_lend 12 = .ok (.getfield 9, 3) := by decide +kernel
theorem dX11_lend_15 : decode cX11_lend 15 = .ok (.iconst 4, 1) := by decide +kernel
theorem dX11_lend_16 : decode cX11_lend 16 = .ok (.aload_n 0, 1) := by decide +kernel
theorem dX11_lend_17 : decode cX11_lend 17 = .ok (.getfield 270, 3) := by decide +kernel
theorem dX11_lend_20 : decode cX11_lend 20 = .ok (.invokevirtual 106, 3) := by decide +kernel
theorem dX11_lend_23 : decode cX11_lend 23 = .ok (.aload_n 0, 1) := by decide +kernel
theorem dX11_lend_24 : decode cX11_lend 24 = .ok (.getfield 47, 3) := by decide +kernel
theorem dX11_lend_27 : decode cX11_lend 27 = .ok (.getfield 333, 3) := by decide +kernel
theorem dX11_lend_30 : decode cX11_lend 30 = .ok (.istore_n 2, 1) := by decide +kernel
theorem dX11_lend_31 : decode cX11_lend 31 = .ok (.aload_n 0, 1) := by decide +kernel
theorem dX11_lend_32 : decode cX11_lend 32 = .ok (.getfield 47, 3) := by decide +kernel
theorem dX11_lend_35 : decode cX11_lend 35 = .ok (.dup, 1) := by decide +kernel
theorem dX11_lend_36 : decode cX11_lend 36 = .ok (.getfield 333, 3) := by decide +kernel
theorem dX11_lend_39 : decode cX11_lend 39 = .ok (.iconst 1, 1) := by decide +kernel
theorem dX11_lend_40 : decode cX11_lend 40 = .ok (.iadd, 1) := by decide +kernel
theorem dX11_lend_41 : decode cX11_lend 41 = .ok (.putfield 333, 3) := by decide +kernel
theorem dX11_lend_44 : decode cX11_lend 44 = .ok (.aload_n 0, 1) := by decide +kernel
theorem dX11_lend_45 : decode cX11_lend 45 = .ok (.getfield 23, 3) := by decide +kernel
theorem dX11_lend_48 : decode cX11_lend 48 = .ok (.aload_n 0, 1) := by decide +kernel
theorem dX11_lend_49 : decode cX11_lend 49 = .ok (.getfield 272, 3) := by decide +kernel
theorem dX11_lend_52 : decode cX11_lend 52 = .ok (.aload_n 0, 1) := by decide +kernel
theorem dX11_lend_53 : decode cX11_lend 53 = .ok (.getfield 275, 3) := by decide +kernel
theorem dX11_lend_56 : decode cX11_lend 56 = .ok (.aload_n 0, 1) := by decide +kernel
theorem dX11_lend_57 : decode cX11_lend 57 = .ok (.getfield 263, 3) := by decide +kernel
theorem dX11_lend_60 : decode cX11_lend 60 = .ok (.aload_n 0, 1) := by decide +kernel
theorem dX11_lend_61 : decode cX11_lend 61 = .ok (.getfield 278, 3) := by decide +kernel
theorem dX11_lend_64 : decode cX11_lend 64 = .ok (.aload_n 0, 1) := by decide +kernel
theorem dX11_lend_65 : decode cX11_lend 65 = .ok (.getfield 214, 3) := by decide +kernel
theorem dX11_lend_68 : decode cX11_lend 68 = .ok (.aload_n 0, 1) := by decide +kernel
theorem dX11_lend_69 : decode cX11_lend 69 = .ok (.getfield 15, 3) := by decide +kernel
theorem dX11_lend_72 : decode cX11_lend 72 = .ok (.getfield 63, 3) := by decide +kernel
theorem dX11_lend_75 : decode cX11_lend 75 = .ok (.aload_n 0, 1) := by decide +kernel
theorem dX11_lend_76 : decode cX11_lend 76 = .ok (.getfield 214, 3) := by decide +kernel
theorem dX11_lend_79 : decode cX11_lend 79 = .ok (.iaload, 1) := by decide +kernel
theorem dX11_lend_80 : decode cX11_lend 80 = .ok (.aload_n 0, 1) := by decide +kernel
theorem dX11_lend_81 : decode cX11_lend 81 = .ok (.getfield 270, 3) := by decide +kernel
theorem dX11_lend_84 : decode cX11_lend 84 = .ok (.invokevirtual 281, 3) := by decide +kernel
theorem dX11_lend_87 : decode cX11_lend 87 = .ok (.istore_n 3, 1) := by decide +kernel
theorem dX11_lend_88 : decode cX11_lend 88 = .ok (.aload_n 0, 1) := by decide +kernel
theorem dX11_lend_89 : decode cX11_lend 89 = .ok (.getfield 23, 3) := by decide +kernel
theorem dX11_lend_92 : decode cX11_lend 92 = .ok (.iconst 4, 1) := by decide +kernel
theorem dX11_lend_93 : decode cX11_lend 93 = .ok (.iload_n 3, 1) := by decide +kernel
theorem dX11_lend_94 : decode cX11_lend 94 = .ok (.iload_n 2, 1) := by decide +kernel
theorem dX11_lend_95 : decode cX11_lend 95 = .ok (.iload_n 1, 1) := by decide +kernel
theorem dX11_lend_96 : decode cX11_lend 96 = .ok (.ifCond .eq 7, 3) := by decide +kernel
theorem dX11_lend_99 : decode cX11_lend 99 = .ok (.iconst 1, 1) := by decide +kernel
theorem dX11_lend_100 : decode cX11_lend 100 = .ok (.goto 4, 3) := by decide +kernel
theorem dX11_lend_103 : decode cX11_lend 103 = .ok (.iconst 0, 1) := by decide +kernel
theorem dX11_lend_104 : decode cX11_lend 104 = .ok (.iconst (-1), 1) := by decide +kernel
theorem dX11_lend_105 : decode cX11_lend 105 = .ok (.invokevirtual 110, 3) := by decide +kernel
theorem dX11_lend_108 : decode cX11_lend 108 = .ok (.aload_n 0, 1) := by decide +kernel
theorem dX11_lend_109 : decode cX11_lend 109 = .ok (.iconst 0, 1) := by decide +kernel
theorem dX11_lend_110 : decode cX11_lend 110 = .ok (.putfield 285, 3) := by decide +kernel
theorem dX11_lend_113 : decode cX11_lend 113 = .ok (.iload_n 2, 1) := by decide +kernel
theorem dX11_lend_114 : decode cX11_lend 114 = .ok (.ireturn, 1) := by decide +kernel
theorem dX11_let_0 : decode cX11_let 0 = .ok (.aload_n 0, 1) := by decide +kernel
theorem dX11_let_1 : decode cX11_let 1 = .ok (.getfield 9, 3) := by decide +kernel
theorem dX11_let_4 : decode cX11_let 4 = .ok (.iconst 1, 1) := by decide +kernel
theorem dX11_let_5 : decode cX11_let 5 = .ok (.invokevirtual 120, 3) := by decide +kernel
theorem dX11_let_8 : decode cX11_let 8 = .ok (.aload_n 0, 1) := by decide +kernel
theorem dX11_let_9 : decode cX11_let 9 = .ok (.getfield 9, 3) := by decide +kernel
theorem dX11_let_12 : decode cX11_let 12 = .ok (.bipush 9, 2) := by decide +kernel
theorem dX11_let_14 : decode cX11_let 14 = .ok (.invokevirtual 164, 3) := by decide +kernel
theorem dX11_let_17 : decode cX11_let 17 = .ok (.istore_n 2, 1) := by decide +kernel
theorem dX11_let_18 : decode cX11_let 18 = .ok (.aload_n 0, 1) := by decide +kernel
theorem dX11_let_19 : decode cX11_let 19 = .ok (.getfield 9, 3) := by decide +kernel
theorem dX11_let_22 : decode cX11_let 22 = .ok (.getfield 167, 3) := by decide +kernel
theorem dX11_let_25 : decode cX11_let 25 = .ok (.aload_n 0, 1) := by decide +kernel
theorem dX11_let_26 : decode cX11_let 26 = .ok (.getfield 9, 3) := by decide +kernel
theorem dX11_let_29 : decode cX11_let 29 = .ok (.getfield 93, 3) := by decide +kernel
theorem dX11_let_32 : decode cX11_let 32 = .ok (.iaload, 1) := by decide +kernel
theorem dX11_let_33 : decode cX11_let 33 = .ok (.istore_n 3, 1) := by decide +kernel
theorem dX11_let_34 : decode cX11_let 34 = .ok (.iconst (-1), 1) := by decide +kernel
theorem dX11_let_35 : decode cX11_let 35 = .ok (.istore 4, 2) := by decide +kernel
theorem dX11_let_37 : decode cX11_let 37 = .ok (.aload_n 0, 1) := by decide +kernel
theorem dX11_let_38 : decode cX11_let 38 = .ok (.getfield 9, 3) := by decide +kernel
theorem dX11_let_41 : decode cX11_let 41 = .ok (.iconst 1, 1) := by decide +kernel
theorem dX11_let_42 : decode cX11_let 42 = .ok (.invokevirtual 120, 3) := by decide +kernel
theorem dX11_let_45 : decode cX11_let 45 = .ok (.aload_n 0, 1) := by decide +kernel
theorem dX11_let_46 : decode cX11_let 46 = .ok (.getfield 9, 3) := by decide +kernel
theorem dX11_let_49 : decode cX11_let 49 = .ok (.bipush 58, 2) := by decide +kernel
theorem dX11_let_51 : decode cX11_let 51 = .ok (.invokevirtual 164, 3) := by decide +kernel
theorem dX11_let_54 : decode cX11_let 54 = .ok (.ifCond .eq 12, 3) := by decide +kernel
theorem dX11_let_57 : decode cX11_let 57 = .ok (.aload_n 0, 1) := by decide +kernel
theorem dX11_let_58 : decode cX11_let 58 = .ok (.getfield 19, 3) := by decide +kernel
theorem dX11_let_61 : decode cX11_let 61 = .ok (.invokevirtual 170, 3) := by decide +kernel
theorem dX11_let_64 : decode cX11_let 64 = .ok (.istore 4, 2) := by decide +kernel
theorem dX11_let_66 : decode cX11_let 66 = .ok (.aload_n 0, 1) := by decide +kernel
theorem dX11_let_67 : decode cX11_let 67 = .ok (.getfield 9, 3) := by decide +kernel
theorem dX11_let_70 : decode cX11_let 70 = .ok (.bipush 61, 2) := by decide +kernel
theorem dX11_let_72 : decode cX11_let 72 = .ok (.invokevirtual 164, 3) := by decide +kernel
theorem dX11_let_75 : decode cX11_let 75 = .ok (.istore 5, 2) := by decide +kernel
theorem dX11_let_77 : decode cX11_let 77 = .ok (.iload 5, 2) := by decide +kernel
theorem dX11_let_79 : decode cX11_let 79 = .ok (.ifCond .eq 51, 3) := by decide +kernel
theorem dX11_let_82 : decode cX11_let 82 = .ok (.aload_n 0, 1) := by decide +kernel
theorem dX11_let_83 : decode cX11_let 83 = .ok (.getfield 9, 3) := by decide +kernel
theorem dX11_let_86 : decode cX11_let 86 = .ok (.invokevirtual 138, 3) := by decide +kernel
theorem dX11_let_89 : decode cX11_let 89 = .ok (.istore 6, 2) := by decide +kernel
theorem dX11_let_91 : decode cX11_let 91 = .ok (.aload_n 0, 1) := by decide +kernel
theorem dX11_let_92 : decode cX11_let 92 = .ok (.iload_n 1, 1) := by decide +kernel
theorem dX11_let_93 : decode cX11_let 93 = .ok (.invokevirtual 173, 3) := by decide +kernel
theorem dX11_let_96 : decode cX11_let 96 = .ok (.istore 7, 2) := by decide +kernel
theorem dX11_let_98 : decode cX11_let 98 = .ok (.iload 7, 2) := by decide +kernel
theorem dX11_let_100 : decode cX11_let 100 = .ok (.ifCond .eq 16, 3) := by decide +kernel
theorem dX11_let_103 : decode cX11_let 103 = .ok (.iload 4, 2) := by decide +kernel
theorem dX11_let_105 : decode cX11_let 105 = .ok (.iconst (-1), 1) := by decide +kernel
theorem dX11_let_106 : decode cX11_let 106 = .ok (.if_icmp .eq 20, 3) := by decide +kernel
theorem dX11_let_109 : decode cX11_let 109 = .ok (.iload 4, 2) := by decide +kernel
theorem dX11_let_111 : decode cX11_let 111 = .ok (.iload 7, 2) := by decide +kernel
theorem dX11_let_113 : decode cX11_let 113 = .ok (.if_icmp .eq 13, 3) := by decide +kernel
theorem dX11_let_116 : decode cX11_let 116 = .ok (.aload_n 0, 1) := by decide +kernel
theorem dX11_let_117 : decode cX11_let 117 = .ok (.getfield 9, 3) := by decide +kernel
theorem dX11_let_120 : decode cX11_let 120 = .ok (.iconst 4, 1) := by decide +kernel
theorem dX11_let_121 : decode cX11_let 121 = .ok (.iload 6, 2) := by decide +kernel
theorem dX11_let_123 : decode cX11_let 123 = .ok (.invokevirtual 106, 3) := by decide +kernel
theorem dX11_let_126 : decode cX11_let 126 = .ok (.iload 7, 2) := by decide +kernel
theorem dX11_let_128 : decode cX11_let 128 = .ok (.istore 4, 2) := by decide +kernel
theorem dX11_let_130 : decode cX11_let 130 = .ok (.aload_n 0, 1) := by decide +kernel
theorem dX11_let_131 : decode cX11_let 131 = .ok (.getfield 47, 3) := by decide +kernel
theorem dX11_let_134 : decode cX11_let 134 = .ok (.iload_n 3, 1) := by decide +kernel
theorem dX11_let_135 : decode cX11_let 135 = .ok (.iload_n 2, 1) := by decide +kernel
theorem dX11_let_136 : decode cX11_let 136 = .ok (.aload_n 0, 1) := by decide +kernel
theorem dX11_let_137 : decode cX11_let 137 = .ok (.getfield 23, 3) := by decide +kernel
theorem dX11_let_140 : decode cX11_let 140 = .ok (.getfield 75, 3) := by decide +kernel
theorem dX11_let_143 : decode cX11_let 143 = .ok (.invokevirtual 177, 3) := by decide +kernel
theorem dX11_let_146 : decode cX11_let 146 = .ok (.istore 6, 2) := by decide +kernel
theorem dX11_let_148 : decode cX11_let 148 = .ok (.iload 4, 2) := by decide +kernel
theorem dX11_let_150 : decode cX11_let 150 = .ok (.iconst (-1), 1) := by decide +kernel
theorem dX11_let_151 : decode cX11_let 151 = .ok (.if_icmp .eq 24, 3) := by decide +kernel
theorem dX11_let_154 : decode cX11_let 154 = .ok (.aload_n 0, 1) := by decide +kernel
theorem dX11_let_155 : decode cX11_let 155 = .ok (.getfield 47, 3) := by decide +kernel
theorem dX11_let_158 : decode cX11_let 158 = .ok (.iload 6, 2) := by decide +kernel
theorem dX11_let_160 : decode cX11_let 160 = .ok (.iload 4, 2) := by decide +kernel
theorem dX11_let_162 : decode cX11_let 162 = .ok (.aload_n 0, 1) := by decide +kernel
theorem dX11_let_163 : decode cX11_let 163 = .ok (.getfield 15, 3) := by decide +kernel
theorem dX11_let_166 : decode cX11_let 166 = .ok (.getfield 63, 3) := by decide +kernel
theorem dX11_let_169 : decode cX11_let 169 = .ok (.iload 4, 2) := by decide +kernel
theorem dX11_let_171 : decode cX11_let 171 = .ok (.iaload, 1) := by decide +kernel
theorem dX11_let_172 : decode cX11_let 172 = .ok (.invokevirtual 68, 3) := by decide +kernel
theorem dX11_let_175 : decode cX11_let 175 = .ok (.aload_n 0, 1) := by decide +kernel
theorem dX11_let_176 : decode cX11_let 176 = .ok (.getfield 23, 3) := by decide +kernel
theorem dX11_let_179 : decode cX11_let 179 = .ok (.iload 5, 2) := by decide +kernel
theorem dX11_let_181 : decode cX11_let 181 = .ok (.ifCond .eq 8, 3) := by decide +kernel
theorem dX11_let_184 : decode cX11_let 184 = .ok (.bipush 24, 2) := by decide +kernel
theorem dX11_let_186 : decode cX11_let 186 = .ok (.goto 5, 3) := by decide +kernel
theorem dX11_let_189 : decode cX11_let 189 = .ok (.bipush 25, 2) := by decide +kernel
theorem dX11_let_191 : decode cX11_let 191 = .ok (.iload 6, 2) := by decide +kernel
theorem dX11_let_193 : decode cX11_let 193 = .ok (.invokevirtual 141, 3) := by decide +kernel
theorem dX11_let_196 : decode cX11_let 196 = .ok (.aload_n 0, 1) := by decide +kernel
theorem dX11_let_197 : decode cX11_let 197 = .ok (.getfield 9, 3) := by decide +kernel
theorem dX11_let_200 : decode cX11_let 200 = .ok (.iconst 1, 1) := by decide +kernel
theorem dX11_let_201 : decode cX11_let 201 = .ok (.invokevirtual 120, 3) := by decide +kernel
theorem dX11_let_204 : decode cX11_let 204 = .ok (.return_, 1) := by decide +kernel
theorem dX11_loop_0 : decode cX11_loop 0 = .ok (.aload_n 0, 1) := by decide +kernel
theorem dX11_loop_1 : decode cX11_loop 1 = .ok (.getfield 23, 3) := by decide +kernel
theorem dX11_loop_4 : decode cX11_loop 4 = .ok (.invokevirtual 203, 3) := by decide +kernel
theorem dX11_loop_7 : decode cX11_loop 7 = .ok (.istore_n 2, 1) := by decide +kernel
theorem dX11_loop_8 : decode cX11_loop 8 = .ok (.aload_n 0, 1) := by decide +kernel
theorem dX11_loop_9 : decode cX11_loop 9 = .ok (.getfield 23, 3) := by decide +kernel
theorem dX11_loop_12 : decode cX11_loop 12 = .ok (.invokevirtual 203, 3) := by decide +kernel
theorem dX11_loop_15 : decode cX11_loop 15 = .ok (.istore_n 3, 1) := by decide +kernel
theorem dX11_loop_16 : decode cX11_loop 16 = .ok (.aload_n 0, 1) := by decide +kernel
theorem dX11_loop_17 : decode cX11_loop 17 = .ok (.getfield 9, 3) := by decide +kernel
theorem dX11_loop_20 : decode cX11_loop 20 = .ok (.iconst 1, 1) := by decide +kernel
theorem dX11_loop_21 : decode cX11_loop 21 = .ok (.invokevirtual 120, 3) := by decide +kernel
theorem dX11_loop_24 : decode cX11_loop 24 = .ok (.aload_n 0, 1) := by decide +kernel
theorem dX11_loop_25 : decode cX11_loop 25 = .ok (.getfield 23, 3) := by decide +kernel
theorem dX11_loop_28 : decode cX11_loop 28 = .ok (.bipush 14, 2) := by decide +kernel
theorem dX11_loop_30 : decode cX11_loop 30 = .ok (.iload_n 2, 1) := by decide +kernel
theorem dX11_loop_31 : decode cX11_loop 31 = .ok (.invokevirtual 209, 3) := by decide +kernel
theorem dX11_loop_34 : decode cX11_loop 34 = .ok (.aload_n 0, 1) := by decide +kernel
theorem dX11_loop_35 : decode cX11_loop 35 = .ok (.getfield 23, 3) := by decide +kernel
theorem dX11_loop_38 : decode cX11_loop 38 = .ok (.bipush 23, 2) := by decide +kernel
theorem dX11_loop_40 : decode cX11_loop 40 = .ok (.iconst 0, 1) := by decide +kernel
theorem dX11_loop_41 : decode cX11_loop 41 = .ok (.invokevirtual 141, 3) := by decide +kernel
theorem dX11_loop_44 : decode cX11_loop 44 = .ok (.aload_n 0, 1) := by decide +kernel
theorem dX11_loop_45 : decode cX11_loop 45 = .ok (.iload_n 1, 1) := by decide +kernel
theorem dX11_loop_46 : decode cX11_loop 46 = .ok (.invokevirtual 206, 3) := by decide +kernel
theorem dX11_loop_49 : decode cX11_loop 49 = .ok (.aload_n 0, 1) := by decide +kernel
theorem dX11_loop_50 : decode cX11_loop 50 = .ok (.getfield 23, 3) := by decide +kernel
theorem dX11_loop_53 : decode cX11_loop 53 = .ok (.bipush 17, 2) := by decide +kernel
theorem dX11_loop_55 : decode cX11_loop 55 = .ok (.iload_n 3, 1) := by decide +kernel
theorem dX11_loop_56 : decode cX11_loop 56 = .ok (.invokevirtual 141, 3) := by decide +kernel
theorem dX11_loop_59 : decode cX11_loop 59 = .ok (.aload_n 0, 1) := by decide +kernel
theorem dX11_loop_60 : decode cX11_loop 60 = .ok (.aload_n 0, 1) := by decide +kernel
theorem dX11_loop_61 : decode cX11_loop 61 = .ok (.getfield 47, 3) := by decide +kernel
theorem dX11_loop_64 : decode cX11_loop 64 = .ok (.getfield 132, 3) := by decide +kernel
theorem dX11_loop_67 : decode cX11_loop 67 = .ok (.iload_n 1, 1) := by decide +kernel
theorem dX11_loop_68 : decode cX11_loop 68 = .ok (.iconst 1, 1) := by decide +kernel
theorem dX11_loop_69 : decode cX11_loop 69 = .ok (.iadd, 1) := by decide +kernel
theorem dX11_loop_70 : decode cX11_loop 70 = .ok (.invokevirtual 96, 3) := by decide +kernel
theorem dX11_loop_73 : decode cX11_loop 73 = .ok (.pop, 1) := by decide +kernel
theorem dX11_loop_74 : decode cX11_loop 74 = .ok (.aload_n 0, 1) := by decide +kernel
theorem dX11_loop_75 : decode cX11_loop 75 = .ok (.getfield 23, 3) := by decide +kernel
theorem dX11_loop_78 : decode cX11_loop 78 = .ok (.bipush 15, 2) := by decide +kernel
theorem dX11_loop_80 : decode cX11_loop 80 = .ok (.iload_n 2, 1) := by decide +kernel
theorem dX11_loop_81 : decode cX11_loop 81 = .ok (.invokevirtual 141, 3) := by decide +kernel
theorem dX11_loop_84 : decode cX11_loop 84 = .ok (.aload_n 0, 1) := by decide +kernel
theorem dX11_loop_85 : decode cX11_loop 85 = .ok (.getfield 23, 3) := by decide +kernel
theorem dX11_loop_88 : decode cX11_loop 88 = .ok (.bipush 13, 2) := by decide +kernel
theorem dX11_loop_90 : decode cX11_loop 90 = .ok (.iload_n 3, 1) := by decide +kernel
theorem dX11_loop_91 : decode cX11_loop 91 = .ok (.invokevirtual 209, 3) := by decide +kernel
theorem dX11_loop_94 : decode cX11_loop 94 = .ok (.return_, 1) := by decide +kernel
theorem dX11_match_0 : decode cX11_match 0 = .ok (.aload_n 0, 1) := by decide +kernel
theorem dX11_match_1 : decode cX11_match 1 = .ok (.getfield 9, 3) := by decide +kernel
theorem dX11_match_4 : decode cX11_match 4 = .ok (.invokevirtual 138, 3) := by decide +kernel
theorem dX11_match_7 : decode cX11_match 7 = .ok (.istore_n 2, 1) := by decide +kernel
theorem dX11_match_8 : decode cX11_match 8 = .ok (.aload_n 0, 1) := by decide +kernel
theorem dX11_match_9 : decode cX11_match 9 = .ok (.getfield 9, 3) := by decide +kernel
theorem dX11_match_12 : decode cX11_match 12 = .ok (.iconst 1, 1) := by decide +kernel
theorem dX11_match_13 : decode cX11_match 13 = .ok (.invokevirtual 120, 3) := by decide +kernel
theorem dX11_match_16 : decode cX11_match 16 = .ok (.aload_n 0, 1) := by decide +kernel
theorem dX11_match_17 : decode cX11_match 17 = .ok (.getfield 9, 3) := by decide +kernel
theorem dX11_match_20 : decode cX11_match 20 = .ok (.bipush 38, 2) := by decide +kernel
theorem dX11_match_22 : decode cX11_match 22 = .ok (.invokevirtual 164, 3) := by decide +kernel
theorem dX11_match_25 : decode cX11_match 25 = .ok (.istore_n 3, 1) := by decide +kernel
theorem dX11_match_26 : decode cX11_match 26 = .ok (.iload_n 3, 1) := by decide +kernel
theorem dX11_match_27 : decode cX11_match 27 = .ok (.ifCond .eq 19, 3) := by decide +kernel
theorem dX11_match_30 : decode cX11_match 30 = .ok (.aload_n 0, 1) := by decide +kernel
theorem dX11_match_31 : decode cX11_match 31 = .ok (.getfield 9, 3) := by decide +kernel
theorem dX11_match_34 : decode cX11_match 34 = .ok (.bipush 9, 2) := by decide +kernel
theorem dX11_match_36 : decode cX11_match 36 = .ok (.invokevirtual 164, 3) := by decide +kernel
theorem dX11_match_39 : decode cX11_match 39 = .ok (.ifCond .eq 7, 3) := by decide +kernel
theorem dX11_match_42 : decode cX11_match 42 = .ok (.iconst 1, 1) := by decide +kernel
theorem dX11_match_43 : decode cX11_match 43 = .ok (.goto 4, 3) := by decide +kernel
theorem dX11_match_46 : decode cX11_match 46 = .ok (.iconst 0, 1) := by decide +kernel
theorem dX11_match_47 : decode cX11_match 47 = .ok (.istore 4, 2) := by decide +kernel
theorem dX11_match_49 : decode cX11_match 49 = .ok (.aload_n 0, 1) := by decide +kernel
theorem dX11_match_50 : decode cX11_match 50 = .ok (.getfield 9, 3) := by decide +kernel
theorem dX11_match_53 : decode cX11_match 53 = .ok (.invokevirtual 138, 3) := by decide +kernel
theorem dX11_match_56 : decode cX11_match 56 = .ok (.istore 5, 2) := by decide +kernel
theorem dX11_match_58 : decode cX11_match 58 = .ok (.iconst (-1), 1) := by decide +kernel
theorem dX11_match_59 : decode cX11_match 59 = .ok (.istore 6, 2) := by decide +kernel
theorem dX11_match_61 : decode cX11_match 61 = .ok (.iload_n 3, 1) := by decide +kernel
theorem dX11_match_62 : decode cX11_match 62 = .ok (.ifCond .eq 12, 3) := by decide +kernel
theorem dX11_match_65 : decode cX11_match 65 = .ok (.aload_n 0, 1) := by decide +kernel
theorem dX11_match_66 : decode cX11_match 66 = .ok (.iconst 1, 1) := by decide +kernel
theorem dX11_match_67 : decode cX11_match 67 = .ok (.iload_n 1, 1) := by decide +kernel
theorem dX11_match_68 : decode cX11_match 68 = .ok (.invokevirtual 188, 3) := by decide +kernel
theorem dX11_match_71 : decode cX11_match 71 = .ok (.goto 9, 3) := by decide +kernel
theorem dX11_match_74 : decode cX11_match 74 = .ok (.aload_n 0, 1) := by decide +kernel
theorem dX11_match_75 : decode cX11_match 75 = .ok (.iload_n 1, 1) := by decide +kernel
theorem dX11_match_76 : decode cX11_match 76 = .ok (.invokevirtual 173, 3) := by decide +kernel
theorem dX11_match_79 : decode cX11_match 79 = .ok (.pop, 1) := by decide +kernel
theorem dX11_match_80 : decode cX11_match 80 = .ok (.aload_n 0, 1) := by decide +kernel
theorem dX11_match_81 : decode cX11_match 81 = .ok (.getfield 15, 3) := by decide +kernel
theorem dX11_match_84 : decode cX11_match 84 = .ok (.getfield 212, 3) := by decide +kernel
theorem dX11_match_87 : decode cX11_match 87 = .ok (.aload_n 0, 1) := by decide +kernel
theorem dX11_match_88 : decode cX11_match 88 = .ok (.getfield 214, 3) := by decide +kernel
theorem dX11_match_91 : decode cX11_match 91 = .ok (.iaload, 1) := by decide +kernel
theorem dX11_match_92 : decode cX11_match 92 = .ok (.iconst 3, 1) := by decide +kernel
theorem dX11_match_93 : decode cX11_match 93 = .ok (.if_icmp .eq 13, 3) := by decide +kernel
theorem dX11_match_96 : decode cX11_match 96 = .ok (.aload_n 0, 1) := by decide +kernel
theorem dX11_match_97 : decode cX11_match 97 = .ok (.getfield 9, 3) := by decide +kernel
theorem dX11_match_100 : decode cX11_match 100 = .ok (.iconst 4, 1) := by decide +kernel
theorem dX11_match_101 : decode cX11_match 101 = .ok (.iload 5, 2) := by decide +kernel
theorem dX11_match_103 : decode cX11_match 103 = .ok (.invokevirtual 106, 3) := by decide +kernel
theorem dX11_match_106 : decode cX11_match 106 = .ok (.aload_n 0, 1) := by decide +kernel
theorem dX11_match_107 : decode cX11_match 107 = .ok (.getfield 9, 3) := by decide +kernel
theorem dX11_match_110 : decode cX11_match 110 = .ok (.getfield 38, 3) := by decide +kernel
theorem dX11_match_113 : decode cX11_match 113 = .ok (.ifCond .ne 15, 3) := by decide +kernel
theorem dX11_match_116 : decode cX11_match 116 = .ok (.iload_n 3, 1) := by decide +kernel
theorem dX11_match_117 : decode cX11_match 117 = .ok (.ifCond .eq 11, 3) := by decide +kernel
theorem dX11_match_120 : decode cX11_match 120 = .ok (.aload_n 0, 1) := by decide +kernel
theorem dX11_match_121 : decode cX11_match 121 = .ok (.iload 4, 2) := by decide +kernel
theorem dX11_match_123 : decode cX11_match 123 = .ok (.invokevirtual 216, 3) := by decide +kernel
theorem dX11_match_126 : decode cX11_match 126 = .ok (.istore 6, 2) := by decide +kernel
theorem dX11_match_128 : decode cX11_match 128 = .ok (.aload_n 0, 1) := by decide +kernel
theorem dX11_match_129 : decode cX11_match 129 = .ok (.getfield 9, 3) := by decide +kernel
theorem dX11_match_132 : decode cX11_match 132 = .ok (.getfield 38, 3) := by decide +kernel
theorem dX11_match_135 : decode cX11_match 135 = .ok (.ifCond .eq 5, 3) := by decide +kernel
theorem dX11_match_138 : decode cX11_match 138 = .ok (.iconst 0, 1) := by decide +kernel
theorem dX11_match_139 : decode cX11_match 139 = .ok (.ireturn, 1) := by decide +kernel
theorem dX11_match_140 : decode cX11_match 140 = .ok (.aload_n 0, 1) := by decide +kernel
theorem dX11_match_141 : decode cX11_match 141 = .ok (.getfield 9, 3) := by decide +kernel
theorem dX11_match_144 : decode cX11_match 144 = .ok (.iconst 1, 1) := by decide +kernel
theorem dX11_match_145 : decode cX11_match 145 = .ok (.invokevirtual 120, 3) := by decide +kernel
theorem dX11_match_148 : decode cX11_match 148 = .ok (.aload_n 0, 1) := by decide +kernel
theorem dX11_match_149 : decode cX11_match 149 = .ok (.aload_n 0, 1) := by decide +kernel
theorem dX11_match_150 : decode cX11_match 150 = .ok (.getfield 214, 3) := by decide +kernel
theorem dX11_match_153 : decode cX11_match 153 = .ok (.iload 6, 2) := by decide +kernel
theorem dX11_match_155 : decode cX11_match 155 = .ok (.iload 4, 2) := by decide +kernel
theorem dX11_match_157 : decode cX11_match 157 = .ok (.iload_n 2, 1) := by decide +kernel
theorem dX11_match_158 : decode cX11_match 158 = .ok (.iload_n 1, 1) := by decide +kernel
theorem dX11_match_159 : decode cX11_match 159 = .ok (.iconst 2, 1) := by decide +kernel
theorem dX11_match_160 : decode cX11_match 160 = .ok (.iadd, 1) := by decide +kernel
theorem dX11_match_161 : decode cX11_match 161 = .ok (.invokevirtual 220, 3) := by decide +kernel
theorem dX11_match_164 : decode cX11_match 164 = .ok (.istore 7, 2) := by decide +kernel
theorem dX11_match_166 : decode cX11_match 166 = .ok (.aload_n 0, 1) := by decide +kernel
theorem dX11_match_167 : decode cX11_match 167 = .ok (.getfield 9, 3) := by decide +kernel
theorem dX11_match_170 : decode cX11_match 170 = .ok (.iconst 1, 1) := by decide +kernel
theorem dX11_match_171 : decode cX11_match 171 = .ok (.invokevirtual 120, 3) := by decide +kernel
theorem dX11_match_174 : decode cX11_match 174 = .ok (.iload 7, 2) := by decide +kernel
theorem dX11_match_176 : decode cX11_match 176 = .ok (.ireturn, 1) := by decide +kernel
theorem dX11_member_0 : decode cX11_member 0 = .ok (.aload_n 0, 1) := by decide +kernel
theorem dX11_member_1 : decode cX11_member 1 = .ok (.getfield 285, 3) := by decide +kernel
theorem dX11_member_4 : decode cX11_member 4 = .ok (.ifCond .eq 19, 3) := by decide +kernel
theorem dX11_member_7 : decode cX11_member 7 = .ok (.aload_n 0, 1) := by decide +kernel
theorem dX11_member_8 : decode cX11_member 8 = .ok (.getfield 15, 3) := by decide +kernel
theorem dX11_member_11 : decode cX11_member 11 = .ok (.getfield 212, 3) := by decide +kernel
theorem dX11_member_14 : decode cX11_member 14 = .ok (.aload_n 0, 1) := by decide +kernel
theorem dX11_member_15 : decode cX11_member 15 = .ok (.getfield 214, 3) := by decide +kernel
theorem dX11_member_18 : decode cX11_member 18 = .ok (.iaload, 1) := by decide +kernel
theorem dX11_member_19 : decode cX11_member 19 = .ok (.iconst 2, 1) := by decide +kernel
theorem dX11_member_20 : decode cX11_member 20 = .ok (.if_icmp .eq 13, 3) := by decide +kernel
theorem dX11_member_23 : decode cX11_member 23 = .ok (.aload_n 0, 1) := by decide +kernel
theorem dX11_member_24 : decode cX11_member 24 = .ok (.getfield 9, 3) := by decide +kernel
theorem dX11_member_27 : decode cX11_member 27 = .ok (.iconst 4, 1) := by decide +kernel
theorem dX11_member_28 : decode cX11_member 28 = .ok (.iload_n 2, 1) := by decide +kernel
theorem dX11_member_29 : decode cX11_member 29 = .ok (.invokevirtual 106, 3) := by decide +kernel
theorem dX11_member_32 : decode cX11_member 32 = .ok (.return_, 1) := by decide +kernel
theorem dX11_member_33 : decode cX11_member 33 = .ok (.aload_n 0, 1) := by decide +kernel
theorem dX11_member_34 : decode cX11_member 34 = .ok (.getfield 15, 3) := by decide +kernel
theorem dX11_member_37 : decode cX11_member 37 = .ok (.aload_n 0, 1) := by decide +kernel
theorem dX11_member_38 : decode cX11_member 38 = .ok (.getfield 214, 3) := by decide +kernel
theorem dX11_member_41 : decode cX11_member 41 = .ok (.iconst 4, 1) := by decide +kernel
theorem dX11_member_42 : decode cX11_member 42 = .ok (.isub, 1) := by decide +kernel
theorem dX11_member_43 : decode cX11_member 43 = .ok (.iconst 0, 1) := by decide +kernel
theorem dX11_member_44 : decode cX11_member 44 = .ok (.invokevirtual 240, 3) := by decide +kernel
theorem dX11_member_47 : decode cX11_member 47 = .ok (.istore_n 3, 1) := by decide +kernel
theorem dX11_member_48 : decode cX11_member 48 = .ok (.aload_n 0, 1) := by decide +kernel
theorem dX11_member_49 : decode cX11_member 49 = .ok (.getfield 15, 3) := by decide +kernel
theorem dX11_member_52 : decode cX11_member 52 = .ok (.iload_n 3, 1) := by decide +kernel
theorem dX11_member_53 : decode cX11_member 53 = .ok (.iload_n 1, 1) := by decide +kernel
theorem dX11_member_54 : decode cX11_member 54 = .ok (.invokevirtual 342, 3) := by decide +kernel
theorem dX11_member_57 : decode cX11_member 57 = .ok (.istore 4, 2) := by decide +kernel
theorem dX11_member_59 : decode cX11_member 59 = .ok (.iload 4, 2) := by decide +kernel
theorem dX11_member_61 : decode cX11_member 61 = .ok (.ifCond .ge 13, 3) := by decide +kernel
theorem dX11_member_64 : decode cX11_member 64 = .ok (.aload_n 0, 1) := by decide +kernel
theorem dX11_member_65 : decode cX11_member 65 = .ok (.getfield 9, 3) := by decide +kernel
theorem dX11_member_68 : decode cX11_member 68 = .ok (.iconst 3, 1) := by decide +kernel
theorem dX11_member_69 : decode cX11_member 69 = .ok (.iload_n 2, 1) := by decide +kernel
theorem dX11_member_70 : decode cX11_member 70 = .ok (.invokevirtual 106, 3) := by decide +kernel
theorem dX11_member_73 : decode cX11_member 73 = .ok (.return_, 1) := by decide +kernel
theorem dX11_member_74 : decode cX11_member 74 = .ok (.aload_n 0, 1) := by decide +kernel
theorem dX11_member_75 : decode cX11_member 75 = .ok (.getfield 263, 3) := by decide +kernel
theorem dX11_member_78 : decode cX11_member 78 = .ok (.iconst 4, 1) := by decide +kernel
theorem dX11_member_79 : decode cX11_member 79 = .ok (.if_icmp .ne 13, 3) := by decide +kernel
theorem dX11_member_82 : decode cX11_member 82 = .ok (.aload_n 0, 1) := by decide +kernel
theorem dX11_member_83 : decode cX11_member 83 = .ok (.getfield 9, 3) := by decide +kernel
theorem dX11_member_86 : decode cX11_member 86 = .ok (.iconst 4, 1) := by decide +kernel
theorem dX11_member_87 : decode cX11_member 87 = .ok (.iload_n 2, 1) := by decide +kernel
theorem dX11_member_88 : decode cX11_member 88 = .ok (.invokevirtual 106, 3) := by decide +kernel
theorem dX11_member_91 : decode cX11_member 91 = .ok (.return_, 1) := by decide +kernel
theorem dX11_member_92 : decode cX11_member 92 = .ok (.iload_n 3, 1) := by decide +kernel
theorem dX11_member_93 : decode cX11_member 93 = .ok (.bipush 12, 2) := by decide +kernel
theorem dX11_member_95 : decode cX11_member 95 = .ok (.imul, 1) := by decide +kernel
theorem dX11_member_96 : decode cX11_member 96 = .ok (.iload 4, 2) := by decide +kernel
theorem dX11_member_98 : decode cX11_member 98 = .ok (.iadd, 1) := by decide +kernel
theorem dX11_member_99 : decode cX11_member 99 = .ok (.istore 5, 2) := by decide +kernel
theorem dX11_member_101 : decode cX11_member 101 = .ok (.aload_n 0, 1) := by decide +kernel
theorem dX11_member_102 : decode cX11_member 102 = .ok (.dup, 1) := by decide +kernel
theorem dX11_member_103 : decode cX11_member 103 = .ok (.getfield 275, 3) := by decide +kernel
theorem dX11_member_106 : decode cX11_member 106 = .ok (.iload 4, 2) := by decide +kernel
theorem dX11_member_108 : decode cX11_member 108 = .ok (.iconst 1, 1) := by decide +kernel
theorem dX11_member_109 : decode cX11_member 109 = .ok (.iadd, 1) := by decide +kernel
theorem dX11_member_110 : decode cX11_member 110 = .ok (.iconst 4, 1) := by decide +kernel
theorem dX11_member_111 : decode cX11_member 111 = .ok (.aload_n 0, 1) := by decide +kernel
theorem dX11_member_112 : decode cX11_member 112 = .ok (.getfield 263, 3) := by decide +kernel
theorem dX11_member_115 : decode cX11_member 115 = .ok (.imul, 1) := by decide +kernel
theorem dX11_member_116 : decode cX11_member 116 = .ok (.ishl, 1) := by decide +kernel
theorem dX11_member_117 : decode cX11_member 117 = .ok (.ior, 1) := by decide +kernel
theorem dX11_member_118 : decode cX11_member 118 = .ok (.putfield 275, 3) := by decide +kernel
theorem dX11_member_121 : decode cX11_member 121 = .ok (.aload_n 0, 1) := by decide +kernel
theorem dX11_member_122 : decode cX11_member 122 = .ok (.dup, 1) := by decide +kernel
theorem dX11_member_123 : decode cX11_member 123 = .ok (.getfield 263, 3) := by decide +kernel
theorem dX11_member_126 : decode cX11_member 126 = .ok (.iconst 1, 1) := by decide +kernel
theorem dX11_member_127 : decode cX11_member 127 = .ok (.iadd, 1) := by decide +kernel
theorem dX11_member_128 : decode cX11_member 128 = .ok (.putfield 263, 3) := by decide +kernel
theorem dX11_member_131 : decode cX11_member 131 = .ok (.aload_n 0, 1) := by decide +kernel
theorem dX11_member_132 : decode cX11_member 132 = .ok (.dup, 1) := by decide +kernel
theorem dX11_member_133 : decode cX11_member 133 = .ok (.getfield 278, 3) := by decide +kernel
theorem dX11_member_136 : decode cX11_member 136 = .ok (.aload_n 0, 1) := by decide +kernel
theorem dX11_member_137 : decode cX11_member 137 = .ok (.getfield 15, 3) := by decide +kernel
theorem dX11_member_140 : decode cX11_member 140 = .ok (.getfield 253, 3) := by decide +kernel
theorem dX11_member_143 : decode cX11_member 143 = .ok (.iload 5, 2) := by decide +kernel
theorem dX11_member_145 : decode cX11_member 145 = .ok (.iaload, 1) := by decide +kernel
theorem dX11_member_146 : decode cX11_member 146 = .ok (.iconst 4, 1) := by decide +kernel
theorem dX11_member_147 : decode cX11_member 147 = .ok (.iconst 4, 1) := by decide +kernel
theorem dX11_member_148 : decode cX11_member 148 = .ok (.aload_n 0, 1) := by decide +kernel
theorem dX11_member_149 : decode cX11_member 149 = .ok (.getfield 278, 3) := by decide +kernel
theorem dX11_member_152 : decode cX11_member 152 = .ok (.bipush 15, 2) := by decide +kernel
theorem dX11_member_154 : decode cX11_member 154 = .ok (.iand, 1) := by decide +kernel
theorem dX11_member_155 : decode cX11_member 155 = .ok (.imul, 1) := by decide +kernel
theorem dX11_member_156 : decode cX11_member 156 = .ok (.iadd, 1) := by decide +kernel
theorem dX11_member_157 : decode cX11_member 157 = .ok (.ishl, 1) := by decide +kernel
theorem dX11_member_158 : decode cX11_member 158 = .ok (.iadd, 1) := by decide +kernel
theorem dX11_member_159 : decode cX11_member 159 = .ok (.putfield 278, 3) := by decide +kernel
theorem dX11_member_162 : decode cX11_member 162 = .ok (.aload_n 0, 1) := by decide +kernel
theorem dX11_member_163 : decode cX11_member 163 = .ok (.aload_n 0, 1) := by decide +kernel
theorem dX11_member_164 : decode cX11_member 164 = .ok (.getfield 15, 3) := by decide +kernel
theorem dX11_member_167 : decode cX11_member 167 = .ok (.getfield 250, 3) := by decide +kernel
theorem dX11_member_170 : decode cX11_member 170 = .ok (.iload 5, 2) := by decide +kernel
theorem dX11_member_172 : decode cX11_member 172 = .ok (.iaload, 1) := by decide +kernel
theorem dX11_member_173 : decode cX11_member 173 = .ok (.putfield 214, 3) := by decide +kernel
theorem dX11_member_176 : decode cX11_member 176 = .ok (.return_, 1) := by decide +kernel
theorem dX11_named_0 : decode cX11_named 0 = .ok (.aload_n 0, 1) := by decide +kernel
theorem dX11_named_1 : decode cX11_named 1 = .ok (.getfield 9, 3) := by decide +kernel
theorem dX11_named_4 : decode cX11_named 4 = .ok (.iconst 1, 1) := by decide +kernel
theorem dX11_named_5 : decode cX11_named 5 = .ok (.invokevirtual 363, 3) := by decide +kernel
theorem dX11_named_8 : decode cX11_named 8 = .ok (.istore_n 3, 1) := by decide +kernel
theorem dX11_named_9 : decode cX11_named 9 = .ok (.iload_n 3, 1) := by decide +kernel
theorem dX11_named_10 : decode cX11_named 10 = .ok (.bipush 40, 2) := by decide +kernel
theorem dX11_named_12 : decode cX11_named 12 = .ok (.if_icmp .ne 12, 3) := by decide +kernel
theorem dX11_named_15 : decode cX11_named 15 = .ok (.aload_n 0, 1) := by decide +kernel
theorem dX11_named_16 : decode cX11_named 16 = .ok (.iload_n 1, 1) := by decide +kernel
theorem dX11_named_17 : decode cX11_named 17 = .ok (.iload_n 2, 1) := by decide +kernel
theorem dX11_named_18 : decode cX11_named 18 = .ok (.invokevirtual 366, 3) := by decide +kernel
theorem dX11_named_21 : decode cX11_named 21 = .ok (.goto 39, 3) := by decide +kernel
theorem dX11_named_24 : decode cX11_named 24 = .ok (.iload_n 3, 1) := by decide +kernel
theorem dX11_named_25 : decode cX11_named 25 = .ok (.sipush 134, 3) := by decide +kernel
theorem dX11_named_28 : decode cX11_named 28 = .ok (.if_icmp .ne 12, 3) := by decide +kernel
theorem dX11_named_31 : decode cX11_named 31 = .ok (.aload_n 0, 1) := by decide +kernel
theorem dX11_named_32 : decode cX11_named 32 = .ok (.iload_n 1, 1) := by decide +kernel
theorem dX11_named_33 : decode cX11_named 33 = .ok (.iload_n 2, 1) := by decide +kernel
theorem dX11_named_34 : decode cX11_named 34 = .ok (.invokevirtual 369, 3) := by decide +kernel
theorem dX11_named_37 : decode cX11_named 37 = .ok (.goto 23, 3) := by decide +kernel
theorem dX11_named_40 : decode cX11_named 40 = .ok (.aload_n 0, 1) := by decide +kernel
theorem dX11_named_41 : decode cX11_named 41 = .ok (.aload_n 0, 1) := by decide +kernel
theorem dX11_named_42 : decode cX11_named 42 = .ok (.getfield 9, 3) := by decide +kernel
theorem dX11_named_45 : decode cX11_named 45 = .ok (.getfield 167, 3) := by decide +kernel
theorem dX11_named_48 : decode cX11_named 48 = .ok (.aload_n 0, 1) := by decide +kernel
theorem dX11_named_49 : decode cX11_named 49 = .ok (.getfield 9, 3) := by decide +kernel
theorem dX11_named_52 : decode cX11_named 52 = .ok (.getfield 93, 3) := by decide +kernel
theorem dX11_named_55 : decode cX11_named 55 = .ok (.iaload, 1) := by decide +kernel
theorem dX11_named_56 : decode cX11_named 56 = .ok (.iload_n 2, 1) := by decide +kernel
theorem dX11_named_57 : decode cX11_named 57 = .ok (.invokevirtual 372, 3) := by decide +kernel
theorem dX11_named_60 : decode cX11_named 60 = .ok (.return_, 1) := by decide +kernel
theorem dX11_number_0 : decode cX11_number 0 = .ok (.aload_n 0, 1) := by decide +kernel
theorem dX11_number_1 : decode cX11_number 1 = .ok (.getfield 23, 3) := by decide +kernel
theorem dX11_number_4 : decode cX11_number 4 = .ok (.lload_n 1, 1) := by decide +kernel
theorem dX11_number_5 : decode cX11_number 5 = .ok (.invokevirtual 359, 3) := by decide +kernel
theorem dX11_number_8 : decode cX11_number 8 = .ok (.aload_n 0, 1) := by decide +kernel
theorem dX11_number_9 : decode cX11_number 9 = .ok (.iload_n 3, 1) := by decide +kernel
theorem dX11_number_10 : decode cX11_number 10 = .ok (.invokevirtual 311, 3) := by decide +kernel
theorem dX11_number_13 : decode cX11_number 13 = .ok (.aload_n 0, 1) := by decide +kernel
theorem dX11_number_14 : decode cX11_number 14 = .ok (.getfield 9, 3) := by decide +kernel
theorem dX11_number_17 : decode cX11_number 17 = .ok (.iconst 1, 1) := by decide +kernel
theorem dX11_number_18 : decode cX11_number 18 = .ok (.invokevirtual 120, 3) := by decide +kernel
theorem dX11_number_21 : decode cX11_number 21 = .ok (.return_, 1) := by decide +kernel
theorem dX11_operate_0 : decode cX11_operate 0 = .ok (.iload_n 1, 1) := by decide +kernel
theorem dX11_operate_1 : decode cX11_operate 1 = .ok (.invokestatic 305, 3) := by decide +kernel
theorem dX11_operate_4 : decode cX11_operate 4 = .ok (.istore 4, 2) := by decide +kernel
theorem dX11_operate_6 : decode cX11_operate 6 = .ok (.iload_n 3, 1) := by decide +kernel
theorem dX11_operate_7 : decode cX11_operate 7 = .ok (.iconst 2, 1) := by decide +kernel
theorem dX11_operate_8 : decode cX11_operate 8 = .ok (.if_icmp .ne 15, 3) := by decide +kernel
theorem dX11_operate_11 : decode cX11_operate 11 = .ok (.aload_n 0, 1) := by decide +kernel
theorem dX11_operate_12 : decode cX11_operate 12 = .ok (.getfield 214, 3) := by decide +kernel
theorem dX11_operate_15 : decode cX11_operate 15 = .ok (.iconst 2, 1) := by decide +kernel
theorem dX11_operate_16 : decode cX11_operate 16 = .ok (.if_icmp .ne 7, 3) := by decide +kernel
theorem dX11_operate_19 : decode cX11_operate 19 = .ok (.iconst 1, 1) := by decide +kernel
theorem dX11_operate_20 : decode cX11_operate 20 = .ok (.goto 4, 3) := by decide +kernel
theorem dX11_operate_23 : decode cX11_operate 23 = .ok (.iconst 0, 1) := by decide +kernel
theorem dX11_operate_24 : decode cX11_operate 24 = .ok (.istore 5, 2) := by decide +kernel
theorem dX11_operate_26 : decode cX11_operate 26 = .ok (.iload_n 3, 1) := by decide +kernel
theorem dX11_operate_27 : decode cX11_operate 27 = .ok (.iconst 1, 1) := by decide +kernel
theorem dX11_operate_28 : decode cX11_operate 28 = .ok (.if_icmp .ne 15, 3) := by decide +kernel
theorem dX11_operate_31 : decode cX11_operate 31 = .ok (.aload_n 0, 1) := by decide +kernel
theorem dX11_operate_32 : decode cX11_operate 32 = .ok (.getfield 214, 3) := by decide +kernel
theorem dX11_operate_35 : decode cX11_operate 35 = .ok (.iconst 1, 1) := by decide +kernel
theorem dX11_operate_36 : decode cX11_operate 36 = .ok (.if_icmp .ne 7, 3) := by decide +kernel
theorem dX11_operate_39 : decode cX11_operate 39 = .ok (.iconst 1, 1) := by decide +kernel
theorem dX11_operate_40 : decode cX11_operate 40 = .ok (.goto 4, 3) := by decide +kernel
theorem dX11_operate_43 : decode cX11_operate 43 = .ok (.iconst 0, 1) := by decide +kernel
theorem dX11_operate_44 : decode cX11_operate 44 = .ok (.istore 6, 2) := by decide +kernel
theorem dX11_operate_46 : decode cX11_operate 46 = .ok (.iload 4, 2) := by decide +kernel
theorem dX11_operate_48 : decode cX11_operate 48 = .ok (.iconst 2, 1) := by decide +kernel
theorem dX11_operate_49 : decode cX11_operate 49 = .ok (.if_icmp .gt 8, 3) := by decide +kernel
theorem dX11_operate_52 : decode cX11_operate 52 = .ok (.iload 5, 2) := by decide +kernel
theorem dX11_operate_54 : decode cX11_operate 54 = .ok (.goto 32, 3) := by decide +kernel
theorem dX11_operate_57 : decode cX11_operate 57 = .ok (.iload 6, 2) := by decide +kernel
theorem dX11_operate_59 : decode cX11_operate 59 = .ok (.ifCond .ne 22, 3) := by decide +kernel
theorem dX11_operate_62 : decode cX11_operate 62 = .ok (.iload 5, 2) := by decide +kernel
theorem dX11_operate_64 : decode cX11_operate 64 = .ok (.ifCond .eq 21, 3) := by decide +kernel
theorem dX11_operate_67 : decode cX11_operate 67 = .ok (.iload_n 1, 1) := by decide +kernel
theorem dX11_operate_68 : decode cX11_operate 68 = .ok (.sipush 128, 3) := by decide +kernel
theorem dX11_operate_71 : decode cX11_operate 71 = .ok (.if_icmp .eq 10, 3) := by decide +kernel
theorem dX11_operate_74 : decode cX11_operate 74 = .ok (.iload_n 1, 1) := by decide +kernel
theorem dX11_operate_75 : decode cX11_operate 75 = .ok (.sipush 129, 3) := by decide +kernel
theorem dX11_operate_78 : decode cX11_operate 78 = .ok (.if_icmp .ne 7, 3) := by decide +kernel
theorem dX11_operate_81 : decode cX11_operate 81 = .ok (.iconst 1, 1) := by decide +kernel
theorem dX11_operate_82 : decode cX11_operate 82 = .ok (.goto 4, 3) := by decide +kernel
theorem dX11_operate_85 : decode cX11_operate 85 = .ok (.iconst 0, 1) := by decide +kernel
theorem dX11_operate_86 : decode cX11_operate 86 = .ok (.istore 7, 2) := by decide +kernel
theorem dX11_operate_88 : decode cX11_operate 88 = .ok (.iload 7, 2) := by decide +kernel
theorem dX11_operate_90 : decode cX11_operate 90 = .ok (.ifCond .ne 12, 3) := by decide +kernel
theorem dX11_operate_93 : decode cX11_operate 93 = .ok (.aload_n 0, 1) := by decide +kernel
theorem dX11_operate_94 : decode cX11_operate 94 = .ok (.getfield 9, 3) := by decide +kernel
theorem dX11_operate_97 : decode cX11_operate 97 = .ok (.iconst 4, 1) := by decide +kernel
theorem dX11_operate_98 : decode cX11_operate 98 = .ok (.iload_n 2, 1) := by decide +kernel
theorem dX11_operate_99 : decode cX11_operate 99 = .ok (.invokevirtual 106, 3) := by decide +kernel
theorem dX11_operate_102 : decode cX11_operate 102 = .ok (.iload 4, 2) := by decide +kernel
theorem dX11_operate_104 : decode cX11_operate 104 = .ok (.iconst 2, 1) := by decide +kernel
theorem dX11_operate_105 : decode cX11_operate 105 = .ok (.if_icmp .le 13, 3) := by decide +kernel
theorem dX11_operate_108 : decode cX11_operate 108 = .ok (.aload_n 0, 1) := by decide +kernel
theorem dX11_operate_109 : decode cX11_operate 109 = .ok (.getfield 23, 3) := by decide +kernel
theorem dX11_operate_112 : decode cX11_operate 112 = .ok (.bipush 7, 2) := by decide +kernel
theorem dX11_operate_114 : decode cX11_operate 114 = .ok (.iload_n 1, 1) := by decide +kernel
theorem dX11_operate_115 : decode cX11_operate 115 = .ok (.invokevirtual 141, 3) := by decide +kernel
theorem dX11_operate_118 : decode cX11_operate 118 = .ok (.aload_n 0, 1) := by decide +kernel
theorem dX11_operate_119 : decode cX11_operate 119 = .ok (.iload 4, 2) := by decide +kernel
theorem dX11_operate_121 : decode cX11_operate 121 = .ok (.iconst 3, 1) := by decide +kernel
theorem dX11_operate_122 : decode cX11_operate 122 = .ok (.if_icmp .gt 7, 3) := by decide +kernel
theorem dX11_operate_125 : decode cX11_operate 125 = .ok (.iconst 2, 1) := by decide +kernel
theorem dX11_operate_126 : decode cX11_operate 126 = .ok (.goto 4, 3) := by decide +kernel
theorem dX11_operate_129 : decode cX11_operate 129 = .ok (.iconst 1, 1) := by decide +kernel
theorem dX11_operate_130 : decode cX11_operate 130 = .ok (.invokevirtual 311, 3) := by decide +kernel
theorem dX11_operate_133 : decode cX11_operate 133 = .ok (.return_, 1) := by decide +kernel
theorem dX11_primary_0 : decode cX11_primary 0 = .ok (.aload_n 0, 1) := by decide +kernel
theorem dX11_primary_1 : decode cX11_primary 1 = .ok (.getfield 9, 3) := by decide +kernel
theorem dX11_primary_4 : decode cX11_primary 4 = .ok (.invokevirtual 138, 3) := by decide +kernel
theorem dX11_primary_7 : decode cX11_primary 7 = .ok (.istore_n 2, 1) := by decide +kernel
theorem dX11_primary_8 : decode cX11_primary 8 = .ok (.aload_n 0, 1) := by decide +kernel
theorem dX11_primary_9 : decode cX11_primary 9 = .ok (.iconst 0, 1) := by decide +kernel
theorem dX11_primary_10 : decode cX11_primary 10 = .ok (.invokevirtual 311, 3) := by decide +kernel
theorem dX11_primary_13 : decode cX11_primary 13 = .ok (.aload_n 0, 1) := by decide +kernel
theorem dX11_primary_14 : decode cX11_primary 14 = .ok (.getfield 9, 3) := by decide +kernel
theorem dX11_primary_17 : decode cX11_primary 17 = .ok (.invokevirtual 124, 3) := by decide +kernel
theorem dX11_primary_20 : decode cX11_primary 20 = .ok (.lookupswitch 236 #[(2, 117), (4, 76), (16, 135), (17, 99), (18, 108), (20, 126), (21, 192), (40, 160)], 76) := by decide +kernel
theorem dX11_primary_96 : decode cX11_primary 96 = .ok (.aload_n 0, 1) := by decide +kernel
theorem dX11_primary_97 : decode cX11_primary 97 = .ok (.aload_n 0, 1) := by decide +kernel
theorem dX11_primary_98 : decode cX11_primary 98 = .ok (.getfield 9, 3) := by decide +kernel
theorem dX11_primary_101 : decode cX11_primary 101 = .ok (.getfield 345, 3) := by decide +kernel
theorem dX11_primary_104 : decode cX11_primary 104 = .ok (.aload_n 0, 1) := by decide +kernel
theorem dX11_primary_105 : decode cX11_primary 105 = .ok (.getfield 9, 3) := by decide +kernel
theorem dX11_primary_108 : decode cX11_primary 108 = .ok (.getfield 93, 3) := by decide +kernel
theorem dX11_primary_111 : decode cX11_primary 111 = .ok (.laload, 1) := by decide +kernel
theorem dX11_primary_112 : decode cX11_primary 112 = .ok (.iconst 1, 1) := by decide +kernel
theorem dX11_primary_113 : decode cX11_primary 113 = .ok (.invokevirtual 349, 3) := by decide +kernel
theorem dX11_primary_116 : decode cX11_primary 116 = .ok (.goto 140, 3) := by decide +kernel
theorem dX11_primary_119 : decode cX11_primary 119 = .ok (.aload_n 0, 1) := by decide +kernel
theorem dX11_primary_120 : decode cX11_primary 120 = .ok (.lconst 1, 1) := by decide +kernel
theorem dX11_primary_121 : decode cX11_primary 121 = .ok (.iconst 2, 1) := by decide +kernel
theorem dX11_primary_122 : decode cX11_primary 122 = .ok (.invokevirtual 349, 3) := by decide +kernel
theorem dX11_primary_125 : decode cX11_primary 125 = .ok (.goto 131, 3) := by decide +kernel
theorem dX11_primary_128 : decode cX11_primary 128 = .ok (.aload_n 0, 1) := by decide +kernel
theorem dX11_primary_129 : decode cX11_primary 129 = .ok (.lconst 0, 1) := by decide +kernel
theorem dX11_primary_130 : decode cX11_primary 130 = .ok (.iconst 2, 1) := by decide +kernel
theorem dX11_primary_131 : decode cX11_primary 131 = .ok (.invokevirtual 349, 3) := by decide +kernel
theorem dX11_primary_134 : decode cX11_primary 134 = .ok (.goto 122, 3) := by decide +kernel
theorem dX11_primary_137 : decode cX11_primary 137 = .ok (.aload_n 0, 1) := by decide +kernel
theorem dX11_primary_138 : decode cX11_primary 138 = .ok (.iload_n 1, 1) := by decide +kernel
theorem dX11_primary_139 : decode cX11_primary 139 = .ok (.iload_n 2, 1) := by decide +kernel
theorem dX11_primary_140 : decode cX11_primary 140 = .ok (.invokevirtual 353, 3) := by decide +kernel
theorem dX11_primary_143 : decode cX11_primary 143 = .ok (.goto 113, 3) := by decide +kernel
theorem dX11_primary_146 : decode cX11_primary 146 = .ok (.aload_n 0, 1) := by decide +kernel
theorem dX11_primary_147 : decode cX11_primary 147 = .ok (.iload_n 1, 1) := by decide +kernel
theorem dX11_primary_148 : decode cX11_primary 148 = .ok (.iload_n 2, 1) := by decide +kernel
theorem dX11_primary_149 : decode cX11_primary 149 = .ok (.invokevirtual 356, 3) := by decide +kernel
theorem dX11_primary_152 : decode cX11_primary 152 = .ok (.goto 104, 3) := by decide +kernel
theorem dX11_primary_155 : decode cX11_primary 155 = .ok (.aload_n 0, 1) := by decide +kernel
theorem dX11_primary_156 : decode cX11_primary 156 = .ok (.getfield 23, 3) := by decide +kernel
theorem dX11_primary_159 : decode cX11_primary 159 = .ok (.iconst 1, 1) := by decide +kernel
theorem dX11_primary_160 : decode cX11_primary 160 = .ok (.iconst 0, 1) := by decide +kernel
theorem dX11_primary_161 : decode cX11_primary 161 = .ok (.invokevirtual 141, 3) := by decide +kernel
theorem dX11_primary_164 : decode cX11_primary 164 = .ok (.aload_n 0, 1) := by decide +kernel
theorem dX11_primary_165 : decode cX11_primary 165 = .ok (.iconst 1, 1) := by decide +kernel
theorem dX11_primary_166 : decode cX11_primary 166 = .ok (.invokevirtual 311, 3) := by decide +kernel
theorem dX11_primary_169 : decode cX11_primary 169 = .ok (.aload_n 0, 1) := by decide +kernel
theorem dX11_primary_170 : decode cX11_primary 170 = .ok (.getfield 9, 3) := by decide +kernel
theorem dX11_primary_173 : decode cX11_primary 173 = .ok (.iconst 1, 1) := by decide +kernel
theorem dX11_primary_174 : decode cX11_primary 174 = .ok (.invokevirtual 120, 3) := by decide +kernel
theorem dX11_primary_177 : decode cX11_primary 177 = .ok (.goto 79, 3) := by decide +kernel
theorem dX11_primary_180 : decode cX11_primary 180 = .ok (.aload_n 0, 1) := by decide +kernel
theorem dX11_primary_181 : decode cX11_primary 181 = .ok (.getfield 9, 3) := by decide +kernel
theorem dX11_primary_184 : decode cX11_primary 184 = .ok (.iconst 1, 1) := by decide +kernel
theorem dX11_primary_185 : decode cX11_primary 185 = .ok (.invokevirtual 120, 3) := by decide +kernel
theorem dX11_primary_188 : decode cX11_primary 188 = .ok (.aload_n 0, 1) := by decide +kernel
theorem dX11_primary_189 : decode cX11_primary 189 = .ok (.iconst 1, 1) := by decide +kernel
theorem dX11_primary_190 : decode cX11_primary 190 = .ok (.iload_n 1, 1) := by decide +kernel
theorem dX11_primary_191 : decode cX11_primary 191 = .ok (.iconst 1, 1) := by decide +kernel
theorem dX11_primary_192 : decode cX11_primary 192 = .ok (.iadd, 1) := by decide +kernel
theorem dX11_primary_193 : decode cX11_primary 193 = .ok (.invokevirtual 188, 3) := by decide +kernel
theorem dX11_primary_196 : decode cX11_primary 196 = .ok (.aload_n 0, 1) := by decide +kernel
theorem dX11_primary_197 : decode cX11_primary 197 = .ok (.getfield 9, 3) := by decide +kernel
theorem dX11_primary_200 : decode cX11_primary 200 = .ok (.iconst 1, 1) := by decide +kernel
theorem dX11_primary_201 : decode cX11_primary 201 = .ok (.invokevirtual 120, 3) := by decide +kernel
theorem dX11_primary_204 : decode cX11_primary 204 = .ok (.aload_n 0, 1) := by decide +kernel
theorem dX11_primary_205 : decode cX11_primary 205 = .ok (.iload_n 2, 1) := by decide +kernel
theorem dX11_primary_206 : decode cX11_primary 206 = .ok (.putfield 270, 3) := by decide +kernel
theorem dX11_primary_209 : decode cX11_primary 209 = .ok (.goto 47, 3) := by decide +kernel
theorem dX11_primary_212 : decode cX11_primary 212 = .ok (.aload_n 0, 1) := by decide +kernel
theorem dX11_primary_213 : decode cX11_primary 213 = .ok (.getfield 9, 3) := by decide +kernel
theorem dX11_primary_216 : decode cX11_primary 216 = .ok (.iconst 2, 1) := by decide +kernel
theorem dX11_primary_217 : decode cX11_primary 217 = .ok (.invokevirtual 120, 3) := by decide +kernel
theorem dX11_primary_220 : decode cX11_primary 220 = .ok (.aload_n 0, 1) := by decide +kernel
theorem dX11_primary_221 : decode cX11_primary 221 = .ok (.iload_n 1, 1) := by decide +kernel
theorem dX11_primary_222 : decode cX11_primary 222 = .ok (.iconst 1, 1) := by decide +kernel
theorem dX11_primary_223 : decode cX11_primary 223 = .ok (.iadd, 1) := by decide +kernel
theorem dX11_primary_224 : decode cX11_primary 224 = .ok (.invokevirtual 173, 3) := by decide +kernel
theorem dX11_primary_227 : decode cX11_primary 227 = .ok (.iconst 1, 1) := by decide +kernel
theorem dX11_primary_228 : decode cX11_primary 228 = .ok (.if_icmp .eq 12, 3) := by decide +kernel
theorem dX11_primary_231 : decode cX11_primary 231 = .ok (.aload_n 0, 1) := by decide +kernel
theorem dX11_primary_232 : decode cX11_primary 232 = .ok (.getfield 9, 3) := by decide +kernel
theorem dX11_primary_235 : decode cX11_primary 235 = .ok (.iconst 4, 1) := by decide +kernel
theorem dX11_primary_236 : decode cX11_primary 236 = .ok (.iload_n 2, 1) := by decide +kernel
theorem dX11_primary_237 : decode cX11_primary 237 = .ok (.invokevirtual 106, 3) := by decide +kernel
theorem dX11_primary_240 : decode cX11_primary 240 = .ok (.aload_n 0, 1) := by decide +kernel
theorem dX11_primary_241 : decode cX11_primary 241 = .ok (.getfield 9, 3) := by decide +kernel
theorem dX11_primary_244 : decode cX11_primary 244 = .ok (.iconst 1, 1) := by decide +kernel
theorem dX11_primary_245 : decode cX11_primary 245 = .ok (.invokevirtual 120, 3) := by decide +kernel
theorem dX11_primary_248 : decode cX11_primary 248 = .ok (.aload_n 0, 1) := by decide +kernel
theorem dX11_primary_249 : decode cX11_primary 249 = .ok (.iconst 3, 1) := by decide +kernel
theorem dX11_primary_250 : decode cX11_primary 250 = .ok (.invokevirtual 311, 3) := by decide +kernel
theorem dX11_primary_253 : decode cX11_primary 253 = .ok (.goto 3, 3) := by decide +kernel
theorem dX11_primary_256 : decode cX11_primary 256 = .ok (.return_, 1) := by decide +kernel
theorem dX11_print_0 : decode cX11_print 0 = .ok (.aload_n 0, 1) := by decide +kernel
theorem dX11_print_1 : decode cX11_print 1 = .ok (.getfield 9, 3) := by decide +kernel
theorem dX11_print_4 : decode cX11_print 4 = .ok (.iconst 1, 1) := by decide +kernel
theorem dX11_print_5 : decode cX11_print 5 = .ok (.invokevirtual 120, 3) := by decide +kernel
theorem dX11_print_8 : decode cX11_print 8 = .ok (.aload_n 0, 1) := by decide +kernel
theorem dX11_print_9 : decode cX11_print 9 = .ok (.getfield 9, 3) := by decide +kernel
theorem dX11_print_12 : decode cX11_print 12 = .ok (.invokevirtual 138, 3) := by decide +kernel
theorem dX11_print_15 : decode cX11_print 15 = .ok (.istore_n 2, 1) := by decide +kernel
theorem dX11_print_16 : decode cX11_print 16 = .ok (.aload_n 0, 1) := by decide +kernel
theorem dX11_print_17 : decode cX11_print 17 = .ok (.iload_n 1, 1) := by decide +kernel
theorem dX11_print_18 : decode cX11_print 18 = .ok (.invokevirtual 173, 3) := by decide +kernel
theorem dX11_print_21 : decode cX11_print 21 = .ok (.istore_n 3, 1) := by decide +kernel
theorem dX11_print_22 : decode cX11_print 22 = .ok (.iload_n 3, 1) := by decide +kernel
theorem dX11_print_23 : decode cX11_print 23 = .ok (.iconst 1, 1) := by decide +kernel
theorem dX11_print_24 : decode cX11_print 24 = .ok (.if_icmp .eq 17, 3) := by decide +kernel
theorem dX11_print_27 : decode cX11_print 27 = .ok (.iload_n 3, 1) := by decide +kernel
theorem dX11_print_28 : decode cX11_print 28 = .ok (.iconst 2, 1) := by decide +kernel
theorem dX11_print_29 : decode cX11_print 29 = .ok (.if_icmp .eq 12, 3) := by decide +kernel
theorem dX11_print_32 : decode cX11_print 32 = .ok (.aload_n 0, 1) := by decide +kernel
theorem dX11_print_33 : decode cX11_print 33 = .ok (.getfield 9, 3) := by decide +kernel
theorem dX11_print_36 : decode cX11_print 36 = .ok (.iconst 4, 1) := by decide +kernel
theorem dX11_print_37 : decode cX11_print 37 = .ok (.iload_n 2, 1) := by decide +kernel
theorem dX11_print_38 : decode cX11_print 38 = .ok (.invokevirtual 106, 3) := by decide +kernel
theorem dX11_print_41 : decode cX11_print 41 = .ok (.aload_n 0, 1) := by decide +kernel
theorem dX11_print_42 : decode cX11_print 42 = .ok (.getfield 23, 3) := by decide +kernel
theorem dX11_print_45 : decode cX11_print 45 = .ok (.bipush 28, 2) := by decide +kernel
theorem dX11_print_47 : decode cX11_print 47 = .ok (.iload_n 3, 1) := by decide +kernel
theorem dX11_print_48 : decode cX11_print 48 = .ok (.invokevirtual 141, 3) := by decide +kernel
theorem dX11_print_51 : decode cX11_print 51 = .ok (.aload_n 0, 1) := by decide +kernel
theorem dX11_print_52 : decode cX11_print 52 = .ok (.getfield 9, 3) := by decide +kernel
theorem dX11_print_55 : decode cX11_print 55 = .ok (.iconst 1, 1) := by decide +kernel
theorem dX11_print_56 : decode cX11_print 56 = .ok (.invokevirtual 120, 3) := by decide +kernel
theorem dX11_print_59 : decode cX11_print 59 = .ok (.return_, 1) := by decide +kernel
theorem dX11_program_0 : decode cX11_program 0 = .ok (.aload_n 0, 1) := by decide +kernel
theorem dX11_program_1 : decode cX11_program 1 = .ok (.getfield 23, 3) := by decide +kernel
theorem dX11_program_4 : decode cX11_program 4 = .ok (.invokevirtual 27, 3) := by decide +kernel
theorem dX11_program_7 : decode cX11_program 7 = .ok (.iconst 0, 1) := by decide +kernel
theorem dX11_program_8 : decode cX11_program 8 = .ok (.istore_n 1, 1) := by decide +kernel
theorem dX11_program_9 : decode cX11_program 9 = .ok (.iload_n 1, 1) := by decide +kernel
theorem dX11_program_10 : decode cX11_program 10 = .ok (.aload_n 0, 1) := by decide +kernel
theorem dX11_program_11 : decode cX11_program 11 = .ok (.getfield 19, 3) := by decide +kernel
theorem dX11_program_14 : decode cX11_program 14 = .ok (.getfield 32, 3) := by decide +kernel
theorem dX11_program_17 : decode cX11_program 17 = .ok (.if_icmp .ge 36, 3) := by decide +kernel
theorem dX11_program_20 : decode cX11_program 20 = .ok (.aload_n 0, 1) := by decide +kernel
theorem dX11_program_21 : decode cX11_program 21 = .ok (.getfield 9, 3) := by decide +kernel
theorem dX11_program_24 : decode cX11_program 24 = .ok (.getfield 38, 3) := by decide +kernel
theorem dX11_program_27 : decode cX11_program 27 = .ok (.ifCond .ne 26, 3) := by decide +kernel
theorem dX11_program_30 : decode cX11_program 30 = .ok (.aload_n 0, 1) := by decide +kernel
theorem dX11_program_31 : decode cX11_program 31 = .ok (.aload_n 0, 1) := by decide +kernel
theorem dX11_program_32 : decode cX11_program 32 = .ok (.getfield 19, 3) := by decide +kernel
theorem dX11_program_35 : decode cX11_program 35 = .ok (.getfield 43, 3) := by decide +kernel
theorem dX11_program_38 : decode cX11_program 38 = .ok (.iload_n 1, 1) := by decide +kernel
theorem dX11_program_39 : decode cX11_program 39 = .ok (.aaload, 1) := by decide +kernel
theorem dX11_program_40 : decode cX11_program 40 = .ok (.putfield 47, 3) := by decide +kernel
theorem dX11_program_43 : decode cX11_program 43 = .ok (.aload_n 0, 1) := by decide +kernel
theorem dX11_program_44 : decode cX11_program 44 = .ok (.invokevirtual 51, 3) := by decide +kernel
theorem dX11_program_47 : decode cX11_program 47 = .ok (.iinc 1 1, 3) := by decide +kernel
theorem dX11_program_50 : decode cX11_program 50 = .ok (.goto (-41), 3) := by decide +kernel
theorem dX11_program_53 : decode cX11_program 53 = .ok (.return_, 1) := by decide +kernel
theorem dX11_star_0 : decode cX11_star 0 = .ok (.aload_n 0, 1) := by decide +kernel
theorem dX11_star_1 : decode cX11_star 1 = .ok (.getfield 15, 3) := by decide +kernel
theorem dX11_star_4 : decode cX11_star 4 = .ok (.getfield 212, 3) := by decide +kernel
theorem dX11_star_7 : decode cX11_star 7 = .ok (.aload_n 0, 1) := by decide +kernel
theorem dX11_star_8 : decode cX11_star 8 = .ok (.getfield 214, 3) := by decide +kernel
theorem dX11_star_11 : decode cX11_star 11 = .ok (.iaload, 1) := by decide +kernel
theorem dX11_star_12 : decode cX11_star 12 = .ok (.istore_n 2, 1) := by decide +kernel
theorem dX11_star_13 : decode cX11_star 13 = .ok (.aload_n 0, 1) := by decide +kernel
theorem dX11_star_14 : decode cX11_star 14 = .ok (.getfield 285, 3) := by decide +kernel
theorem dX11_star_17 : decode cX11_star 17 = .ok (.ifCond .eq 30, 3) := by decide +kernel
theorem dX11_star_20 : decode cX11_star 20 = .ok (.iload_n 2, 1) := by decide +kernel
theorem dX11_star_21 : decode cX11_star 21 = .ok (.iconst 4, 1) := by decide +kernel
theorem dX11_star_22 : decode cX11_star 22 = .ok (.if_icmp .eq 17, 3) := by decide +kernel
theorem dX11_star_25 : decode cX11_star 25 = .ok (.aload_n 0, 1) := by decide +kernel
theorem dX11_star_26 : decode cX11_star 26 = .ok (.getfield 15, 3) := by decide +kernel
theorem dX11_star_29 : decode cX11_star 29 = .ok (.aload_n 0, 1) := by decide +kernel
theorem dX11_star_30 : decode cX11_star 30 = .ok (.getfield 214, 3) := by decide +kernel
theorem dX11_star_33 : decode cX11_star 33 = .ok (.invokevirtual 299, 3) := by decide +kernel
theorem dX11_star_36 : decode cX11_star 36 = .ok (.ifCond .eq 11, 3) := by decide +kernel
theorem dX11_star_39 : decode cX11_star 39 = .ok (.aload_n 0, 1) := by decide +kernel
theorem dX11_star_40 : decode cX11_star 40 = .ok (.getfield 263, 3) := by decide +kernel
theorem dX11_star_43 : decode cX11_star 43 = .ok (.iconst 4, 1) := by decide +kernel
theorem dX11_star_44 : decode cX11_star 44 = .ok (.if_icmp .ne 13, 3) := by decide +kernel
theorem dX11_star_47 : decode cX11_star 47 = .ok (.aload_n 0, 1) := by decide +kernel
theorem dX11_star_48 : decode cX11_star 48 = .ok (.getfield 9, 3) := by decide +kernel
theorem dX11_star_51 : decode cX11_star 51 = .ok (.iconst 4, 1) := by decide +kernel
theorem dX11_star_52 : decode cX11_star 52 = .ok (.iload_n 1, 1) := by decide +kernel
theorem dX11_star_53 : decode cX11_star 53 = .ok (.invokevirtual 106, 3) := by decide +kernel
theorem dX11_star_56 : decode cX11_star 56 = .ok (.return_, 1) := by decide +kernel
theorem dX11_star_57 : decode cX11_star 57 = .ok (.aload_n 0, 1) := by decide +kernel
theorem dX11_star_58 : decode cX11_star 58 = .ok (.dup, 1) := by decide +kernel
theorem dX11_star_59 : decode cX11_star 59 = .ok (.getfield 275, 3) := by decide +kernel
theorem dX11_star_62 : decode cX11_star 62 = .ok (.bipush 13, 2) := by decide +kernel
theorem dX11_star_64 : decode cX11_star 64 = .ok (.iconst 4, 1) := by decide +kernel
theorem dX11_star_65 : decode cX11_star 65 = .ok (.aload_n 0, 1) := by decide +kernel
theorem dX11_star_66 : decode cX11_star 66 = .ok (.getfield 263, 3) := by decide +kernel
theorem dX11_star_69 : decode cX11_star 69 = .ok (.imul, 1) := by decide +kernel
theorem dX11_star_70 : decode cX11_star 70 = .ok (.ishl, 1) := by decide +kernel
theorem dX11_star_71 : decode cX11_star 71 = .ok (.ior, 1) := by decide +kernel
theorem dX11_star_72 : decode cX11_star 72 = .ok (.putfield 275, 3) := by decide +kernel
theorem dX11_star_75 : decode cX11_star 75 = .ok (.aload_n 0, 1) := by decide +kernel
theorem dX11_star_76 : decode cX11_star 76 = .ok (.dup, 1) := by decide +kernel
theorem dX11_star_77 : decode cX11_star 77 = .ok (.getfield 263, 3) := by decide +kernel
theorem dX11_star_80 : decode cX11_star 80 = .ok (.iconst 1, 1) := by decide +kernel
theorem dX11_star_81 : decode cX11_star 81 = .ok (.iadd, 1) := by decide +kernel
theorem dX11_star_82 : decode cX11_star 82 = .ok (.putfield 263, 3) := by decide +kernel
theorem dX11_star_85 : decode cX11_star 85 = .ok (.aload_n 0, 1) := by decide +kernel
theorem dX11_star_86 : decode cX11_star 86 = .ok (.dup, 1) := by decide +kernel
theorem dX11_star_87 : decode cX11_star 87 = .ok (.getfield 278, 3) := by decide +kernel
theorem dX11_star_90 : decode cX11_star 90 = .ok (.iconst 1, 1) := by decide +kernel
theorem dX11_star_91 : decode cX11_star 91 = .ok (.iadd, 1) := by decide +kernel
theorem dX11_star_92 : decode cX11_star 92 = .ok (.putfield 278, 3) := by decide +kernel
theorem dX11_star_95 : decode cX11_star 95 = .ok (.aload_n 0, 1) := by decide +kernel
theorem dX11_star_96 : decode cX11_star 96 = .ok (.iload_n 2, 1) := by decide +kernel
theorem dX11_star_97 : decode cX11_star 97 = .ok (.bipush 6, 2) := by decide +kernel
theorem dX11_star_99 : decode cX11_star 99 = .ok (.if_icmp .eq 15, 3) := by decide +kernel
theorem dX11_star_102 : decode cX11_star 102 = .ok (.iload_n 2, 1) := by decide +kernel
theorem dX11_star_103 : decode cX11_star 103 = .ok (.iconst 4, 1) := by decide +kernel
theorem dX11_star_104 : decode cX11_star 104 = .ok (.if_icmp .ne 14, 3) := by decide +kernel
theorem dX11_star_107 : decode cX11_star 107 = .ok (.aload_n 0, 1) := by decide +kernel
theorem dX11_star_108 : decode cX11_star 108 = .ok (.getfield 266, 3) := by decide +kernel
theorem dX11_star_111 : decode cX11_star 111 = .ok (.ifCond .eq 7, 3) := by decide +kernel
theorem dX11_star_114 : decode cX11_star 114 = .ok (.iconst 1, 1) := by decide +kernel
theorem dX11_star_115 : decode cX11_star 115 = .ok (.goto 4, 3) := by decide +kernel
theorem dX11_star_118 : decode cX11_star 118 = .ok (.iconst 0, 1) := by decide +kernel
theorem dX11_star_119 : decode cX11_star 119 = .ok (.putfield 266, 3) := by decide +kernel
theorem dX11_star_122 : decode cX11_star 122 = .ok (.aload_n 0, 1) := by decide +kernel
theorem dX11_star_123 : decode cX11_star 123 = .ok (.aload_n 0, 1) := by decide +kernel
theorem dX11_star_124 : decode cX11_star 124 = .ok (.getfield 15, 3) := by decide +kernel
theorem dX11_star_127 : decode cX11_star 127 = .ok (.getfield 330, 3) := by decide +kernel
theorem dX11_star_130 : decode cX11_star 130 = .ok (.aload_n 0, 1) := by decide +kernel
theorem dX11_star_131 : decode cX11_star 131 = .ok (.getfield 214, 3) := by decide +kernel
theorem dX11_star_134 : decode cX11_star 134 = .ok (.iaload, 1) := by decide +kernel
theorem dX11_star_135 : decode cX11_star 135 = .ok (.putfield 214, 3) := by decide +kernel
theorem dX11_star_138 : decode cX11_star 138 = .ok (.aload_n 0, 1) := by decide +kernel
theorem dX11_star_139 : decode cX11_star 139 = .ok (.iload_n 1, 1) := by decide +kernel
theorem dX11_star_140 : decode cX11_star 140 = .ok (.putfield 270, 3) := by decide +kernel
theorem dX11_star_143 : decode cX11_star 143 = .ok (.return_, 1) := by decide +kernel
theorem dX11_startPlace_0 : decode cX11_startPlace 0 = .ok (.aload_n 0, 1) := by decide +kernel
theorem dX11_startPlace_1 : decode cX11_startPlace 1 = .ok (.iconst 1, 1) := by decide +kernel
theorem dX11_startPlace_2 : decode cX11_startPlace 2 = .ok (.putfield 285, 3) := by decide +kernel
theorem dX11_startPlace_5 : decode cX11_startPlace 5 = .ok (.aload_n 0, 1) := by decide +kernel
theorem dX11_startPlace_6 : decode cX11_startPlace 6 = .ok (.iload_n 1, 1) := by decide +kernel
theorem dX11_startPlace_7 : decode cX11_startPlace 7 = .ok (.putfield 272, 3) := by decide +kernel
theorem dX11_startPlace_10 : decode cX11_startPlace 10 = .ok (.aload_n 0, 1) := by decide +kernel
theorem dX11_startPlace_11 : decode cX11_startPlace 11 = .ok (.iconst 0, 1) := by decide +kernel
theorem dX11_startPlace_12 : decode cX11_startPlace 12 = .ok (.putfield 275, 3) := by decide +kernel
theorem dX11_startPlace_15 : decode cX11_startPlace 15 = .ok (.aload_n 0, 1) := by decide +kernel
theorem dX11_startPlace_16 : decode cX11_startPlace 16 = .ok (.iconst 0, 1) := by decide +kernel
theorem dX11_startPlace_17 : decode cX11_startPlace 17 = .ok (.putfield 263, 3) := by decide +kernel
theorem dX11_startPlace_20 : decode cX11_startPlace 20 = .ok (.aload_n 0, 1) := by decide +kernel
theorem dX11_startPlace_21 : decode cX11_startPlace 21 = .ok (.iconst 0, 1) := by decide +kernel
theorem dX11_startPlace_22 : decode cX11_startPlace 22 = .ok (.putfield 278, 3) := by decide +kernel
theorem dX11_startPlace_25 : decode cX11_startPlace 25 = .ok (.aload_n 0, 1) := by decide +kernel
theorem dX11_startPlace_26 : decode cX11_startPlace 26 = .ok (.aload_n 0, 1) := by decide +kernel
theorem dX11_startPlace_27 : decode cX11_startPlace 27 = .ok (.getfield 47, 3) := by decide +kernel
theorem dX11_startPlace_30 : decode cX11_startPlace 30 = .ok (.getfield 59, 3) := by decide +kernel
theorem dX11_startPlace_33 : decode cX11_startPlace 33 = .ok (.iload_n 1, 1) := by decide +kernel
theorem dX11_startPlace_34 : decode cX11_startPlace 34 = .ok (.iaload, 1) := by decide +kernel
theorem dX11_startPlace_35 : decode cX11_startPlace 35 = .ok (.putfield 214, 3) := by decide +kernel
theorem dX11_startPlace_38 : decode cX11_startPlace 38 = .ok (.aload_n 0, 1) := by decide +kernel
theorem dX11_startPlace_39 : decode cX11_startPlace 39 = .ok (.aload_n 0, 1) := by decide +kernel
theorem dX11_startPlace_40 : decode cX11_startPlace 40 = .ok (.getfield 47, 3) := by decide +kernel
theorem dX11_startPlace_43 : decode cX11_startPlace 43 = .ok (.getfield 288, 3) := by decide +kernel
theorem dX11_startPlace_46 : decode cX11_startPlace 46 = .ok (.iload_n 1, 1) := by decide +kernel
theorem dX11_startPlace_47 : decode cX11_startPlace 47 = .ok (.baload, 1) := by decide +kernel
theorem dX11_startPlace_48 : decode cX11_startPlace 48 = .ok (.putfield 266, 3) := by decide +kernel
theorem dX11_startPlace_51 : decode cX11_startPlace 51 = .ok (.aload_n 0, 1) := by decide +kernel
theorem dX11_startPlace_52 : decode cX11_startPlace 52 = .ok (.iload_n 2, 1) := by decide +kernel
theorem dX11_startPlace_53 : decode cX11_startPlace 53 = .ok (.putfield 270, 3) := by decide +kernel
theorem dX11_startPlace_56 : decode cX11_startPlace 56 = .ok (.return_, 1) := by decide +kernel
theorem dX11_statement_0 : decode cX11_statement 0 = .ok (.aload_n 0, 1) := by decide +kernel
theorem dX11_statement_1 : decode cX11_statement 1 = .ok (.getfield 23, 3) := by decide +kernel
theorem dX11_statement_4 : decode cX11_statement 4 = .ok (.bipush 23, 2) := by decide +kernel
theorem dX11_statement_6 : decode cX11_statement 6 = .ok (.iconst 0, 1) := by decide +kernel
theorem dX11_statement_7 : decode cX11_statement 7 = .ok (.invokevirtual 141, 3) := by decide +kernel
theorem dX11_statement_10 : decode cX11_statement 10 = .ok (.aload_n 0, 1) := by decide +kernel
theorem dX11_statement_11 : decode cX11_statement 11 = .ok (.getfield 9, 3) := by decide +kernel
theorem dX11_statement_14 : decode cX11_statement 14 = .ok (.invokevirtual 124, 3) := by decide +kernel
theorem dX11_statement_17 : decode cX11_statement 17 = .ok (.lookupswitch 121 #[(8, 107), (10, 67), (12, 100), (13, 73), (14, 94), (15, 114), (123, 79)], 67) := by decide +kernel
theorem dX11_statement_84 : decode cX11_statement 84 = .ok (.aload_n 0, 1) := by decide +kernel
theorem dX11_statement_85 : decode cX11_statement 85 = .ok (.iload_n 1, 1) := by decide +kernel
theorem dX11_statement_86 : decode cX11_statement 86 = .ok (.invokevirtual 143, 3) := by decide +kernel
theorem dX11_statement_89 : decode cX11_statement 89 = .ok (.ireturn, 1) := by decide +kernel
theorem dX11_statement_90 : decode cX11_statement 90 = .ok (.aload_n 0, 1) := by decide +kernel
theorem dX11_statement_91 : decode cX11_statement 91 = .ok (.iload_n 1, 1) := by decide +kernel
theorem dX11_statement_92 : decode cX11_statement 92 = .ok (.invokevirtual 146, 3) := by decide +kernel
theorem dX11_statement_95 : decode cX11_statement 95 = .ok (.ireturn, 1) := by decide +kernel
theorem dX11_statement_96 : decode cX11_statement 96 = .ok (.aload_n 0, 1) := by decide +kernel
theorem dX11_statement_97 : decode cX11_statement 97 = .ok (.aload_n 0, 1) := by decide +kernel
theorem dX11_statement_98 : decode cX11_statement 98 = .ok (.getfield 47, 3) := by decide +kernel
theorem dX11_statement_101 : decode cX11_statement 101 = .ok (.getfield 132, 3) := by decide +kernel
theorem dX11_statement_104 : decode cX11_statement 104 = .ok (.iload_n 1, 1) := by decide +kernel
theorem dX11_statement_105 : decode cX11_statement 105 = .ok (.iconst 1, 1) := by decide +kernel
theorem dX11_statement_106 : decode cX11_statement 106 = .ok (.iadd, 1) := by decide +kernel
theorem dX11_statement_107 : decode cX11_statement 107 = .ok (.invokevirtual 96, 3) := by decide +kernel
theorem dX11_statement_110 : decode cX11_statement 110 = .ok (.ireturn, 1) := by decide +kernel
theorem dX11_statement_111 : decode cX11_statement 111 = .ok (.aload_n 0, 1) := by decide +kernel
theorem dX11_statement_112 : decode cX11_statement 112 = .ok (.iload_n 1, 1) := by decide +kernel
theorem dX11_statement_113 : decode cX11_statement 113 = .ok (.invokevirtual 149, 3) := by decide +kernel
theorem dX11_statement_116 : decode cX11_statement 116 = .ok (.ireturn, 1) := by decide +kernel
theorem dX11_statement_117 : decode cX11_statement 117 = .ok (.aload_n 0, 1) := by decide +kernel
theorem dX11_statement_118 : decode cX11_statement 118 = .ok (.iload_n 1, 1) := by decide +kernel
theorem dX11_statement_119 : decode cX11_statement 119 = .ok (.invokevirtual 152, 3) := by decide +kernel
theorem dX11_statement_122 : decode cX11_statement 122 = .ok (.iconst 0, 1) := by decide +kernel
theorem dX11_statement_123 : decode cX11_statement 123 = .ok (.ireturn, 1) := by decide +kernel
theorem dX11_statement_124 : decode cX11_statement 124 = .ok (.aload_n 0, 1) := by decide +kernel
theorem dX11_statement_125 : decode cX11_statement 125 = .ok (.iload_n 1, 1) := by decide +kernel
theorem dX11_statement_126 : decode cX11_statement 126 = .ok (.invokevirtual 155, 3) := by decide +kernel
theorem dX11_statement_129 : decode cX11_statement 129 = .ok (.iconst 0, 1) := by decide +kernel
theorem dX11_statement_130 : decode cX11_statement 130 = .ok (.ireturn, 1) := by decide +kernel
theorem dX11_statement_131 : decode cX11_statement 131 = .ok (.aload_n 0, 1) := by decide +kernel
theorem dX11_statement_132 : decode cX11_statement 132 = .ok (.iload_n 1, 1) := by decide +kernel
theorem dX11_statement_133 : decode cX11_statement 133 = .ok (.invokevirtual 158, 3) := by decide +kernel
theorem dX11_statement_136 : decode cX11_statement 136 = .ok (.iconst 0, 1) := by decide +kernel
theorem dX11_statement_137 : decode cX11_statement 137 = .ok (.ireturn, 1) := by decide +kernel
theorem dX11_statement_138 : decode cX11_statement 138 = .ok (.aload_n 0, 1) := by decide +kernel
theorem dX11_statement_139 : decode cX11_statement 139 = .ok (.iload_n 1, 1) := by decide +kernel
theorem dX11_statement_140 : decode cX11_statement 140 = .ok (.invokevirtual 161, 3) := by decide +kernel
theorem dX11_statement_143 : decode cX11_statement 143 = .ok (.iconst 0, 1) := by decide +kernel
theorem dX11_statement_144 : decode cX11_statement 144 = .ok (.ireturn, 1) := by decide +kernel
theorem dX11_suffixed_0 : decode cX11_suffixed 0 = .ok (.aload_n 0, 1) := by decide +kernel
theorem dX11_suffixed_1 : decode cX11_suffixed 1 = .ok (.iload_n 1, 1) := by decide +kernel
theorem dX11_suffixed_2 : decode cX11_suffixed 2 = .ok (.invokevirtual 336, 3) := by decide +kernel
theorem dX11_suffixed_5 : decode cX11_suffixed 5 = .ok (.iconst 0, 1) := by decide +kernel
theorem dX11_suffixed_6 : decode cX11_suffixed 6 = .ok (.istore_n 2, 1) := by decide +kernel
theorem dX11_suffixed_7 : decode cX11_suffixed 7 = .ok (.iload_n 2, 1) := by decide +kernel
theorem dX11_suffixed_8 : decode cX11_suffixed 8 = .ok (.bipush 16, 2) := by decide +kernel
theorem dX11_suffixed_10 : decode cX11_suffixed 10 = .ok (.if_icmp .ge 55, 3) := by decide +kernel
theorem dX11_suffixed_13 : decode cX11_suffixed 13 = .ok (.aload_n 0, 1) := by decide +kernel
theorem dX11_suffixed_14 : decode cX11_suffixed 14 = .ok (.getfield 9, 3) := by decide +kernel
theorem dX11_suffixed_17 : decode cX11_suffixed 17 = .ok (.bipush 46, 2) := by decide +kernel
theorem dX11_suffixed_19 : decode cX11_suffixed 19 = .ok (.invokevirtual 164, 3) := by decide +kernel
theorem dX11_suffixed_22 : decode cX11_suffixed 22 = .ok (.ifCond .eq 43, 3) := by decide +kernel
theorem dX11_suffixed_25 : decode cX11_suffixed 25 = .ok (.aload_n 0, 1) := by decide +kernel
theorem dX11_suffixed_26 : decode cX11_suffixed 26 = .ok (.aload_n 0, 1) := by decide +kernel
theorem dX11_suffixed_27 : decode cX11_suffixed 27 = .ok (.getfield 9, 3) := by decide +kernel
theorem dX11_suffixed_30 : decode cX11_suffixed 30 = .ok (.getfield 167, 3) := by decide +kernel
theorem dX11_suffixed_33 : decode cX11_suffixed 33 = .ok (.aload_n 0, 1) := by decide +kernel
theorem dX11_suffixed_34 : decode cX11_suffixed 34 = .ok (.getfield 9, 3) := by decide +kernel
theorem dX11_suffixed_37 : decode cX11_suffixed 37 = .ok (.getfield 93, 3) := by decide +kernel
theorem dX11_suffixed_40 : decode cX11_suffixed 40 = .ok (.iaload, 1) := by decide +kernel
theorem dX11_suffixed_41 : decode cX11_suffixed 41 = .ok (.aload_n 0, 1) := by decide +kernel
theorem dX11_suffixed_42 : decode cX11_suffixed 42 = .ok (.getfield 9, 3) := by decide +kernel
theorem dX11_suffixed_45 : decode cX11_suffixed 45 = .ok (.invokevirtual 138, 3) := by decide +kernel
theorem dX11_suffixed_48 : decode cX11_suffixed 48 = .ok (.invokevirtual 339, 3) := by decide +kernel
theorem dX11_suffixed_51 : decode cX11_suffixed 51 = .ok (.aload_n 0, 1) := by decide +kernel
theorem dX11_suffixed_52 : decode cX11_suffixed 52 = .ok (.getfield 9, 3) := by decide +kernel
theorem dX11_suffixed_55 : decode cX11_suffixed 55 = .ok (.iconst 1, 1) := by decide +kernel
theorem dX11_suffixed_56 : decode cX11_suffixed 56 = .ok (.invokevirtual 120, 3) := by decide +kernel
theorem dX11_suffixed_59 : decode cX11_suffixed 59 = .ok (.iinc 2 1, 3) := by decide +kernel
theorem dX11_suffixed_62 : decode cX11_suffixed 62 = .ok (.goto (-55), 3) := by decide +kernel
theorem dX11_suffixed_65 : decode cX11_suffixed 65 = .ok (.return_, 1) := by decide +kernel
theorem dX11_unary_0 : decode cX11_unary 0 = .ok (.aload_n 0, 1) := by decide +kernel
theorem dX11_unary_1 : decode cX11_unary 1 = .ok (.getfield 9, 3) := by decide +kernel
theorem dX11_unary_4 : decode cX11_unary 4 = .ok (.invokevirtual 124, 3) := by decide +kernel
theorem dX11_unary_7 : decode cX11_unary 7 = .ok (.istore_n 2, 1) := by decide +kernel
theorem dX11_unary_8 : decode cX11_unary 8 = .ok (.aload_n 0, 1) := by decide +kernel
theorem dX11_unary_9 : decode cX11_unary 9 = .ok (.getfield 9, 3) := by decide +kernel
theorem dX11_unary_12 : decode cX11_unary 12 = .ok (.invokevirtual 138, 3) := by decide +kernel
theorem dX11_unary_15 : decode cX11_unary 15 = .ok (.istore_n 3, 1) := by decide +kernel
theorem dX11_unary_16 : decode cX11_unary 16 = .ok (.iload_n 1, 1) := by decide +kernel
theorem dX11_unary_17 : decode cX11_unary 17 = .ok (.bipush 16, 2) := by decide +kernel
theorem dX11_unary_19 : decode cX11_unary 19 = .ok (.if_icmp .le 4, 3) := by decide +kernel
theorem dX11_unary_22 : decode cX11_unary 22 = .ok (.return_, 1) := by decide +kernel
theorem dX11_unary_23 : decode cX11_unary 23 = .ok (.iload_n 2, 1) := by decide +kernel
theorem dX11_unary_24 : decode cX11_unary 24 = .ok (.bipush 33, 2) := by decide +kernel
theorem dX11_unary_26 : decode cX11_unary 26 = .ok (.if_icmp .eq 33, 3) := by decide +kernel
theorem dX11_unary_29 : decode cX11_unary 29 = .ok (.iload_n 2, 1) := by decide +kernel
theorem dX11_unary_30 : decode cX11_unary 30 = .ok (.bipush 45, 2) := by decide +kernel
theorem dX11_unary_32 : decode cX11_unary 32 = .ok (.if_icmp .eq 27, 3) := by decide +kernel
theorem dX11_unary_35 : decode cX11_unary 35 = .ok (.iload_n 2, 1) := by decide +kernel
theorem dX11_unary_36 : decode cX11_unary 36 = .ok (.bipush 42, 2) := by decide +kernel
theorem dX11_unary_38 : decode cX11_unary 38 = .ok (.if_icmp .eq 21, 3) := by decide +kernel
theorem dX11_unary_41 : decode cX11_unary 41 = .ok (.iload_n 2, 1) := by decide +kernel
theorem dX11_unary_42 : decode cX11_unary 42 = .ok (.bipush 38, 2) := by decide +kernel
theorem dX11_unary_44 : decode cX11_unary 44 = .ok (.if_icmp .eq 15, 3) := by decide +kernel
theorem dX11_unary_47 : decode cX11_unary 47 = .ok (.iload_n 2, 1) := by decide +kernel
theorem dX11_unary_48 : decode cX11_unary 48 = .ok (.bipush 19, 2) := by decide +kernel
theorem dX11_unary_50 : decode cX11_unary 50 = .ok (.if_icmp .eq 9, 3) := by decide +kernel
theorem dX11_unary_53 : decode cX11_unary 53 = .ok (.aload_n 0, 1) := by decide +kernel
theorem dX11_unary_54 : decode cX11_unary 54 = .ok (.iload_n 1, 1) := by decide +kernel
theorem dX11_unary_55 : decode cX11_unary 55 = .ok (.invokevirtual 314, 3) := by decide +kernel
theorem dX11_unary_58 : decode cX11_unary 58 = .ok (.return_, 1) := by decide +kernel
theorem dX11_unary_59 : decode cX11_unary 59 = .ok (.aload_n 0, 1) := by decide +kernel
theorem dX11_unary_60 : decode cX11_unary 60 = .ok (.getfield 9, 3) := by decide +kernel
theorem dX11_unary_63 : decode cX11_unary 63 = .ok (.iconst 1, 1) := by decide +kernel
theorem dX11_unary_64 : decode cX11_unary 64 = .ok (.invokevirtual 120, 3) := by decide +kernel
theorem dX11_unary_67 : decode cX11_unary 67 = .ok (.iload_n 2, 1) := by decide +kernel
theorem dX11_unary_68 : decode cX11_unary 68 = .ok (.bipush 38, 2) := by decide +kernel
theorem dX11_unary_70 : decode cX11_unary 70 = .ok (.if_icmp .ne 19, 3) := by decide +kernel
theorem dX11_unary_73 : decode cX11_unary 73 = .ok (.aload_n 0, 1) := by decide +kernel
theorem dX11_unary_74 : decode cX11_unary 74 = .ok (.getfield 9, 3) := by decide +kernel
theorem dX11_unary_77 : decode cX11_unary 77 = .ok (.bipush 9, 2) := by decide +kernel
theorem dX11_unary_79 : decode cX11_unary 79 = .ok (.invokevirtual 164, 3) := by decide +kernel
theorem dX11_unary_82 : decode cX11_unary 82 = .ok (.ifCond .eq 7, 3) := by decide +kernel
theorem dX11_unary_85 : decode cX11_unary 85 = .ok (.iconst 1, 1) := by decide +kernel
theorem dX11_unary_86 : decode cX11_unary 86 = .ok (.goto 4, 3) := by decide +kernel
theorem dX11_unary_89 : decode cX11_unary 89 = .ok (.iconst 0, 1) := by decide +kernel
theorem dX11_unary_90 : decode cX11_unary 90 = .ok (.istore 4, 2) := by decide +kernel
theorem dX11_unary_92 : decode cX11_unary 92 = .ok (.aload_n 0, 1) := by decide +kernel
theorem dX11_unary_93 : decode cX11_unary 93 = .ok (.iload_n 1, 1) := by decide +kernel
theorem dX11_unary_94 : decode cX11_unary 94 = .ok (.iconst 1, 1) := by decide +kernel
theorem dX11_unary_95 : decode cX11_unary 95 = .ok (.iadd, 1) := by decide +kernel
theorem dX11_unary_96 : decode cX11_unary 96 = .ok (.invokevirtual 302, 3) := by decide +kernel
theorem dX11_unary_99 : decode cX11_unary 99 = .ok (.aload_n 0, 1) := by decide +kernel
theorem dX11_unary_100 : decode cX11_unary 100 = .ok (.getfield 9, 3) := by decide +kernel
theorem dX11_unary_103 : decode cX11_unary 103 = .ok (.getfield 38, 3) := by decide +kernel
theorem dX11_unary_106 : decode cX11_unary 106 = .ok (.ifCond .eq 4, 3) := by decide +kernel
theorem dX11_unary_109 : decode cX11_unary 109 = .ok (.return_, 1) := by decide +kernel
theorem dX11_unary_110 : decode cX11_unary 110 = .ok (.iload_n 2, 1) := by decide +kernel
theorem dX11_unary_111 : decode cX11_unary 111 = .ok (.bipush 42, 2) := by decide +kernel
theorem dX11_unary_113 : decode cX11_unary 113 = .ok (.if_icmp .ne 11, 3) := by decide +kernel
theorem dX11_unary_116 : decode cX11_unary 116 = .ok (.aload_n 0, 1) := by decide +kernel
theorem dX11_unary_117 : decode cX11_unary 117 = .ok (.iload_n 3, 1) := by decide +kernel
theorem dX11_unary_118 : decode cX11_unary 118 = .ok (.invokevirtual 317, 3) := by decide +kernel
theorem dX11_unary_121 : decode cX11_unary 121 = .ok (.goto 29, 3) := by decide +kernel
theorem dX11_unary_124 : decode cX11_unary 124 = .ok (.iload_n 2, 1) := by decide +kernel
theorem dX11_unary_125 : decode cX11_unary 125 = .ok (.bipush 38, 2) := by decide +kernel
theorem dX11_unary_127 : decode cX11_unary 127 = .ok (.if_icmp .ne 13, 3) := by decide +kernel
theorem dX11_unary_130 : decode cX11_unary 130 = .ok (.aload_n 0, 1) := by decide +kernel
theorem dX11_unary_131 : decode cX11_unary 131 = .ok (.iload 4, 2) := by decide +kernel
theorem dX11_unary_133 : decode cX11_unary 133 = .ok (.iload_n 3, 1) := by decide +kernel
theorem dX11_unary_134 : decode cX11_unary 134 = .ok (.invokevirtual 320, 3) := by decide +kernel
theorem dX11_unary_137 : decode cX11_unary 137 = .ok (.goto 13, 3) := by decide +kernel
theorem dX11_unary_140 : decode cX11_unary 140 = .ok (.aload_n 0, 1) := by decide +kernel
theorem dX11_unary_141 : decode cX11_unary 141 = .ok (.invokevirtual 260, 3) := by decide +kernel
theorem dX11_unary_144 : decode cX11_unary 144 = .ok (.aload_n 0, 1) := by decide +kernel
theorem dX11_unary_145 : decode cX11_unary 145 = .ok (.iload_n 2, 1) := by decide +kernel
theorem dX11_unary_146 : decode cX11_unary 146 = .ok (.iload_n 3, 1) := by decide +kernel
theorem dX11_unary_147 : decode cX11_unary 147 = .ok (.invokevirtual 324, 3) := by decide +kernel
theorem dX11_unary_150 : decode cX11_unary 150 = .ok (.return_, 1) := by decide +kernel
theorem dX11_use_0 : decode cX11_use 0 = .ok (.aload_n 0, 1) := by decide +kernel
theorem dX11_use_1 : decode cX11_use 1 = .ok (.getfield 285, 3) := by decide +kernel
theorem dX11_use_4 : decode cX11_use 4 = .ok (.ifCond .eq 13, 3) := by decide +kernel
theorem dX11_use_7 : decode cX11_use 7 = .ok (.aload_n 0, 1) := by decide +kernel
theorem dX11_use_8 : decode cX11_use 8 = .ok (.getfield 9, 3) := by decide +kernel
theorem dX11_use_11 : decode cX11_use 11 = .ok (.getfield 38, 3) := by decide +kernel
theorem dX11_use_14 : decode cX11_use 14 = .ok (.ifCond .eq 4, 3) := by decide +kernel
theorem dX11_use_17 : decode cX11_use 17 = .ok (.return_, 1) := by decide +kernel
theorem dX11_use_18 : decode cX11_use 18 = .ok (.aload_n 0, 1) := by decide +kernel
theorem dX11_use_19 : decode cX11_use 19 = .ok (.iconst 0, 1) := by decide +kernel
theorem dX11_use_20 : decode cX11_use 20 = .ok (.putfield 285, 3) := by decide +kernel
theorem dX11_use_23 : decode cX11_use 23 = .ok (.aload_n 0, 1) := by decide +kernel
theorem dX11_use_24 : decode cX11_use 24 = .ok (.getfield 15, 3) := by decide +kernel
theorem dX11_use_27 : decode cX11_use 27 = .ok (.aload_n 0, 1) := by decide +kernel
theorem dX11_use_28 : decode cX11_use 28 = .ok (.getfield 214, 3) := by decide +kernel
theorem dX11_use_31 : decode cX11_use 31 = .ok (.invokevirtual 292, 3) := by decide +kernel
theorem dX11_use_34 : decode cX11_use 34 = .ok (.istore_n 1, 1) := by decide +kernel
theorem dX11_use_35 : decode cX11_use 35 = .ok (.iload_n 1, 1) := by decide +kernel
theorem dX11_use_36 : decode cX11_use 36 = .ok (.ifCond .ne 23, 3) := by decide +kernel
theorem dX11_use_39 : decode cX11_use 39 = .ok (.aload_n 0, 1) := by decide +kernel
theorem dX11_use_40 : decode cX11_use 40 = .ok (.invokevirtual 295, 3) := by decide +kernel
theorem dX11_use_43 : decode cX11_use 43 = .ok (.ifCond .ne 16, 3) := by decide +kernel
theorem dX11_use_46 : decode cX11_use 46 = .ok (.aload_n 0, 1) := by decide +kernel
theorem dX11_use_47 : decode cX11_use 47 = .ok (.getfield 9, 3) := by decide +kernel
theorem dX11_use_50 : decode cX11_use 50 = .ok (.iconst 4, 1) := by decide +kernel
theorem dX11_use_51 : decode cX11_use 51 = .ok (.aload_n 0, 1) := by decide +kernel
theorem dX11_use_52 : decode cX11_use 52 = .ok (.getfield 270, 3) := by decide +kernel
theorem dX11_use_55 : decode cX11_use 55 = .ok (.invokevirtual 106, 3) := by decide +kernel
theorem dX11_use_58 : decode cX11_use 58 = .ok (.return_, 1) := by decide +kernel
theorem dX11_use_59 : decode cX11_use 59 = .ok (.aload_n 0, 1) := by decide +kernel
theorem dX11_use_60 : decode cX11_use 60 = .ok (.getfield 23, 3) := by decide +kernel
theorem dX11_use_63 : decode cX11_use 63 = .ok (.aload_n 0, 1) := by decide +kernel
theorem dX11_use_64 : decode cX11_use 64 = .ok (.getfield 272, 3) := by decide +kernel
theorem dX11_use_67 : decode cX11_use 67 = .ok (.aload_n 0, 1) := by decide +kernel
theorem dX11_use_68 : decode cX11_use 68 = .ok (.getfield 275, 3) := by decide +kernel
theorem dX11_use_71 : decode cX11_use 71 = .ok (.aload_n 0, 1) := by decide +kernel
theorem dX11_use_72 : decode cX11_use 72 = .ok (.getfield 263, 3) := by decide +kernel
theorem dX11_use_75 : decode cX11_use 75 = .ok (.aload_n 0, 1) := by decide +kernel
theorem dX11_use_76 : decode cX11_use 76 = .ok (.getfield 278, 3) := by decide +kernel
theorem dX11_use_79 : decode cX11_use 79 = .ok (.aload_n 0, 1) := by decide +kernel
theorem dX11_use_80 : decode cX11_use 80 = .ok (.getfield 214, 3) := by decide +kernel
theorem dX11_use_83 : decode cX11_use 83 = .ok (.aload_n 0, 1) := by decide +kernel
theorem dX11_use_84 : decode cX11_use 84 = .ok (.getfield 15, 3) := by decide +kernel
theorem dX11_use_87 : decode cX11_use 87 = .ok (.getfield 63, 3) := by decide +kernel
theorem dX11_use_90 : decode cX11_use 90 = .ok (.aload_n 0, 1) := by decide +kernel
theorem dX11_use_91 : decode cX11_use 91 = .ok (.getfield 214, 3) := by decide +kernel
theorem dX11_use_94 : decode cX11_use 94 = .ok (.iaload, 1) := by decide +kernel
theorem dX11_use_95 : decode cX11_use 95 = .ok (.aload_n 0, 1) := by decide +kernel
theorem dX11_use_96 : decode cX11_use 96 = .ok (.getfield 270, 3) := by decide +kernel
theorem dX11_use_99 : decode cX11_use 99 = .ok (.invokevirtual 281, 3) := by decide +kernel
theorem dX11_use_102 : decode cX11_use 102 = .ok (.istore_n 2, 1) := by decide +kernel
theorem dX11_use_103 : decode cX11_use 103 = .ok (.aload_n 0, 1) := by decide +kernel
theorem dX11_use_104 : decode cX11_use 104 = .ok (.getfield 23, 3) := by decide +kernel
theorem dX11_use_107 : decode cX11_use 107 = .ok (.iload_n 1, 1) := by decide +kernel
theorem dX11_use_108 : decode cX11_use 108 = .ok (.ifCond .eq 7, 3) := by decide +kernel
theorem dX11_use_111 : decode cX11_use 111 = .ok (.iconst 2, 1) := by decide +kernel
theorem dX11_use_112 : decode cX11_use 112 = .ok (.goto 4, 3) := by decide +kernel
theorem dX11_use_115 : decode cX11_use 115 = .ok (.iconst 3, 1) := by decide +kernel
theorem dX11_use_116 : decode cX11_use 116 = .ok (.iload_n 2, 1) := by decide +kernel
theorem dX11_use_117 : decode cX11_use 117 = .ok (.invokevirtual 141, 3) := by decide +kernel
theorem dX11_use_120 : decode cX11_use 120 = .ok (.return_, 1) := by decide +kernel
theorem dX11_value_0 : decode cX11_value 0 = .ok (.aload_n 0, 1) := by decide +kernel
theorem dX11_value_1 : decode cX11_value 1 = .ok (.iconst 1, 1) := by decide +kernel
theorem dX11_value_2 : decode cX11_value 2 = .ok (.iload_n 1, 1) := by decide +kernel
theorem dX11_value_3 : decode cX11_value 3 = .ok (.invokevirtual 188, 3) := by decide +kernel
theorem dX11_value_6 : decode cX11_value 6 = .ok (.aload_n 0, 1) := by decide +kernel
theorem dX11_value_7 : decode cX11_value 7 = .ok (.invokevirtual 260, 3) := by decide +kernel
theorem dX11_value_10 : decode cX11_value 10 = .ok (.aload_n 0, 1) := by decide +kernel
theorem dX11_value_11 : decode cX11_value 11 = .ok (.getfield 214, 3) := by decide +kernel
theorem dX11_value_14 : decode cX11_value 14 = .ok (.ireturn, 1) := by decide +kernel
theorem dX11_variableNamed_0 : decode cX11_variableNamed 0 = .ok (.aload_n 0, 1) := by decide +kernel
theorem dX11_variableNamed_1 : decode cX11_variableNamed 1 = .ok (.getfield 47, 3) := by decide +kernel
theorem dX11_variableNamed_4 : decode cX11_variableNamed 4 = .ok (.iload_n 1, 1) := by decide +kernel
theorem dX11_variableNamed_5 : decode cX11_variableNamed 5 = .ok (.invokevirtual 197, 3) := by decide +kernel
theorem dX11_variableNamed_8 : decode cX11_variableNamed 8 = .ok (.istore_n 3, 1) := by decide +kernel
theorem dX11_variableNamed_9 : decode cX11_variableNamed 9 = .ok (.iload_n 3, 1) := by decide +kernel
theorem dX11_variableNamed_10 : decode cX11_variableNamed 10 = .ok (.ifCond .ge 15, 3) := by decide +kernel
theorem dX11_variableNamed_13 : decode cX11_variableNamed 13 = .ok (.aload_n 0, 1) := by decide +kernel
theorem dX11_variableNamed_14 : decode cX11_variableNamed 14 = .ok (.getfield 9, 3) := by decide +kernel
theorem dX11_variableNamed_17 : decode cX11_variableNamed 17 = .ok (.iconst 3, 1) := by decide +kernel
theorem dX11_variableNamed_18 : decode cX11_variableNamed 18 = .ok (.iload_n 2, 1) := by decide +kernel
theorem dX11_variableNamed_19 : decode cX11_variableNamed 19 = .ok (.invokevirtual 106, 3) := by decide +kernel
theorem dX11_variableNamed_22 : decode cX11_variableNamed 22 = .ok (.goto 42, 3) := by decide +kernel
theorem dX11_variableNamed_25 : decode cX11_variableNamed 25 = .ok (.aload_n 0, 1) := by decide +kernel
theorem dX11_variableNamed_26 : decode cX11_variableNamed 26 = .ok (.getfield 47, 3) := by decide +kernel
theorem dX11_variableNamed_29 : decode cX11_variableNamed 29 = .ok (.getfield 59, 3) := by decide +kernel
theorem dX11_variableNamed_32 : decode cX11_variableNamed 32 = .ok (.iload_n 3, 1) := by decide +kernel
theorem dX11_variableNamed_33 : decode cX11_variableNamed 33 = .ok (.iaload, 1) := by decide +kernel
theorem dX11_variableNamed_34 : decode cX11_variableNamed 34 = .ok (.iconst (-1), 1) := by decide +kernel
theorem dX11_variableNamed_35 : decode cX11_variableNamed 35 = .ok (.if_icmp .ne 15, 3) := by decide +kernel
theorem dX11_variableNamed_38 : decode cX11_variableNamed 38 = .ok (.aload_n 0, 1) := by decide +kernel
theorem dX11_variableNamed_39 : decode cX11_variableNamed 39 = .ok (.getfield 9, 3) := by decide +kernel
theorem dX11_variableNamed_42 : decode cX11_variableNamed 42 = .ok (.iconst 4, 1) := by decide +kernel
theorem dX11_variableNamed_43 : decode cX11_variableNamed 43 = .ok (.iload_n 2, 1) := by decide +kernel
theorem dX11_variableNamed_44 : decode cX11_variableNamed 44 = .ok (.invokevirtual 106, 3) := by decide +kernel
theorem dX11_variableNamed_47 : decode cX11_variableNamed 47 = .ok (.goto 17, 3) := by decide +kernel
theorem dX11_variableNamed_50 : decode cX11_variableNamed 50 = .ok (.aload_n 0, 1) := by decide +kernel
theorem dX11_variableNamed_51 : decode cX11_variableNamed 51 = .ok (.iload_n 3, 1) := by decide +kernel
theorem dX11_variableNamed_52 : decode cX11_variableNamed 52 = .ok (.iload_n 2, 1) := by decide +kernel
theorem dX11_variableNamed_53 : decode cX11_variableNamed 53 = .ok (.invokevirtual 375, 3) := by decide +kernel
theorem dX11_variableNamed_56 : decode cX11_variableNamed 56 = .ok (.aload_n 0, 1) := by decide +kernel
theorem dX11_variableNamed_57 : decode cX11_variableNamed 57 = .ok (.getfield 9, 3) := by decide +kernel
theorem dX11_variableNamed_60 : decode cX11_variableNamed 60 = .ok (.iconst 1, 1) := by decide +kernel
theorem dX11_variableNamed_61 : decode cX11_variableNamed 61 = .ok (.invokevirtual 120, 3) := by decide +kernel
theorem dX11_variableNamed_64 : decode cX11_variableNamed 64 = .ok (.return_, 1) := by decide +kernel
theorem dX11_variant_0 : decode cX11_variant 0 = .ok (.aload_n 0, 1) := by decide +kernel
theorem dX11_variant_1 : decode cX11_variant 1 = .ok (.getfield 19, 3) := by decide +kernel
theorem dX11_variant_4 : decode cX11_variant 4 = .ok (.aload_n 0, 1) := by decide +kernel
theorem dX11_variant_5 : decode cX11_variant 5 = .ok (.getfield 9, 3) := by decide +kernel
theorem dX11_variant_8 : decode cX11_variant 8 = .ok (.getfield 167, 3) := by decide +kernel
theorem dX11_variant_11 : decode cX11_variant 11 = .ok (.aload_n 0, 1) := by decide +kernel
theorem dX11_variant_12 : decode cX11_variant 12 = .ok (.getfield 9, 3) := by decide +kernel
theorem dX11_variant_15 : decode cX11_variant 15 = .ok (.getfield 93, 3) := by decide +kernel
theorem dX11_variant_18 : decode cX11_variant 18 = .ok (.iaload, 1) := by decide +kernel
theorem dX11_variant_19 : decode cX11_variant 19 = .ok (.iconst 3, 1) := by decide +kernel
theorem dX11_variant_20 : decode cX11_variant 20 = .ok (.invokevirtual 381, 3) := by decide +kernel
theorem dX11_variant_23 : decode cX11_variant 23 = .ok (.istore_n 3, 1) := by decide +kernel
theorem dX11_variant_24 : decode cX11_variant 24 = .ok (.iload_n 3, 1) := by decide +kernel
theorem dX11_variant_25 : decode cX11_variant 25 = .ok (.ifCond .ge 13, 3) := by decide +kernel
theorem dX11_variant_28 : decode cX11_variant 28 = .ok (.aload_n 0, 1) := by decide +kernel
theorem dX11_variant_29 : decode cX11_variant 29 = .ok (.getfield 9, 3) := by decide +kernel
theorem dX11_variant_32 : decode cX11_variant 32 = .ok (.iconst 3, 1) := by decide +kernel
theorem dX11_variant_33 : decode cX11_variant 33 = .ok (.iload_n 2, 1) := by decide +kernel
theorem dX11_variant_34 : decode cX11_variant 34 = .ok (.invokevirtual 106, 3) := by decide +kernel
theorem dX11_variant_37 : decode cX11_variant 37 = .ok (.return_, 1) := by decide +kernel
theorem dX11_variant_38 : decode cX11_variant 38 = .ok (.aload_n 0, 1) := by decide +kernel
theorem dX11_variant_39 : decode cX11_variant 39 = .ok (.getfield 9, 3) := by decide +kernel
theorem dX11_variant_42 : decode cX11_variant 42 = .ok (.iconst 2, 1) := by decide +kernel
theorem dX11_variant_43 : decode cX11_variant 43 = .ok (.invokevirtual 120, 3) := by decide +kernel
theorem dX11_variant_46 : decode cX11_variant 46 = .ok (.aload_n 0, 1) := by decide +kernel
theorem dX11_variant_47 : decode cX11_variant 47 = .ok (.getfield 15, 3) := by decide +kernel
theorem dX11_variant_50 : decode cX11_variant 50 = .ok (.iload_n 3, 1) := by decide +kernel
theorem dX11_variant_51 : decode cX11_variant 51 = .ok (.aload_n 0, 1) := by decide +kernel
theorem dX11_variant_52 : decode cX11_variant 52 = .ok (.getfield 9, 3) := by decide +kernel
theorem dX11_variant_55 : decode cX11_variant 55 = .ok (.getfield 167, 3) := by decide +kernel
theorem dX11_variant_58 : decode cX11_variant 58 = .ok (.aload_n 0, 1) := by decide +kernel
theorem dX11_variant_59 : decode cX11_variant 59 = .ok (.getfield 9, 3) := by decide +kernel
theorem dX11_variant_62 : decode cX11_variant 62 = .ok (.getfield 93, 3) := by decide +kernel
theorem dX11_variant_65 : decode cX11_variant 65 = .ok (.iaload, 1) := by decide +kernel
theorem dX11_variant_66 : decode cX11_variant 66 = .ok (.invokevirtual 230, 3) := by decide +kernel
theorem dX11_variant_69 : decode cX11_variant 69 = .ok (.istore 4, 2) := by decide +kernel
theorem dX11_variant_71 : decode cX11_variant 71 = .ok (.iload 4, 2) := by decide +kernel
theorem dX11_variant_73 : decode cX11_variant 73 = .ok (.ifCond .ge 19, 3) := by decide +kernel
theorem dX11_variant_76 : decode cX11_variant 76 = .ok (.aload_n 0, 1) := by decide +kernel
theorem dX11_variant_77 : decode cX11_variant 77 = .ok (.getfield 9, 3) := by decide +kernel
theorem dX11_variant_80 : decode cX11_variant 80 = .ok (.iconst 3, 1) := by decide +kernel
theorem dX11_variant_81 : decode cX11_variant 81 = .ok (.aload_n 0, 1) := by decide +kernel
theorem dX11_variant_82 : decode cX11_variant 82 = .ok (.getfield 9, 3) := by decide +kernel
theorem dX11_variant_85 : decode cX11_variant 85 = .ok (.invokevirtual 138, 3) := by decide +kernel
theorem dX11_variant_88 : decode cX11_variant 88 = .ok (.invokevirtual 106, 3) := by decide +kernel
theorem dX11_variant_91 : decode cX11_variant 91 = .ok (.return_, 1) := by decide +kernel
theorem dX11_variant_92 : decode cX11_variant 92 = .ok (.aload_n 0, 1) := by decide +kernel
theorem dX11_variant_93 : decode cX11_variant 93 = .ok (.getfield 9, 3) := by decide +kernel
theorem dX11_variant_96 : decode cX11_variant 96 = .ok (.iconst 1, 1) := by decide +kernel
theorem dX11_variant_97 : decode cX11_variant 97 = .ok (.invokevirtual 120, 3) := by decide +kernel
theorem dX11_variant_100 : decode cX11_variant 100 = .ok (.aload_n 0, 1) := by decide +kernel
theorem dX11_variant_101 : decode cX11_variant 101 = .ok (.getfield 15, 3) := by decide +kernel
theorem dX11_variant_104 : decode cX11_variant 104 = .ok (.iload_n 3, 1) := by decide +kernel
theorem dX11_variant_105 : decode cX11_variant 105 = .ok (.iload 4, 2) := by decide +kernel
theorem dX11_variant_107 : decode cX11_variant 107 = .ok (.invokevirtual 240, 3) := by decide +kernel
theorem dX11_variant_110 : decode cX11_variant 110 = .ok (.istore 5, 2) := by decide +kernel
theorem dX11_variant_112 : decode cX11_variant 112 = .ok (.aload_n 0, 1) := by decide +kernel
theorem dX11_variant_113 : decode cX11_variant 113 = .ok (.getfield 9, 3) := by decide +kernel
theorem dX11_variant_116 : decode cX11_variant 116 = .ok (.invokevirtual 124, 3) := by decide +kernel
theorem dX11_variant_119 : decode cX11_variant 119 = .ok (.bipush 40, 2) := by decide +kernel
theorem dX11_variant_121 : decode cX11_variant 121 = .ok (.if_icmp .ne 21, 3) := by decide +kernel
theorem dX11_variant_124 : decode cX11_variant 124 = .ok (.aload_n 0, 1) := by decide +kernel
theorem dX11_variant_125 : decode cX11_variant 125 = .ok (.getfield 9, 3) := by decide +kernel
theorem dX11_variant_128 : decode cX11_variant 128 = .ok (.getfield 181, 3) := by decide +kernel
theorem dX11_variant_131 : decode cX11_variant 131 = .ok (.aload_n 0, 1) := by decide +kernel
theorem dX11_variant_132 : decode cX11_variant 132 = .ok (.getfield 9, 3) := by decide +kernel
theorem dX11_variant_135 : decode cX11_variant 135 = .ok (.getfield 93, 3) := by decide +kernel
theorem dX11_variant_138 : decode cX11_variant 138 = .ok (.iaload, 1) := by decide +kernel
theorem dX11_variant_139 : decode cX11_variant 139 = .ok (.goto 4, 3) := by decide +kernel
theorem dX11_variant_142 : decode cX11_variant 142 = .ok (.iconst 0, 1) := by decide +kernel
theorem dX11_variant_143 : decode cX11_variant 143 = .ok (.istore 6, 2) := by decide +kernel
theorem dX11_variant_145 : decode cX11_variant 145 = .ok (.iload 6, 2) := by decide +kernel
theorem dX11_variant_147 : decode cX11_variant 147 = .ok (.aload_n 0, 1) := by decide +kernel
theorem dX11_variant_148 : decode cX11_variant 148 = .ok (.getfield 15, 3) := by decide +kernel
theorem dX11_variant_151 : decode cX11_variant 151 = .ok (.getfield 243, 3) := by decide +kernel
theorem dX11_variant_154 : decode cX11_variant 154 = .ok (.iload 5, 2) := by decide +kernel
theorem dX11_variant_156 : decode cX11_variant 156 = .ok (.iaload, 1) := by decide +kernel
theorem dX11_variant_157 : decode cX11_variant 157 = .ok (.if_icmp .eq 12, 3) := by decide +kernel
theorem dX11_variant_160 : decode cX11_variant 160 = .ok (.aload_n 0, 1) := by decide +kernel
theorem dX11_variant_161 : decode cX11_variant 161 = .ok (.getfield 9, 3) := by decide +kernel
theorem dX11_variant_164 : decode cX11_variant 164 = .ok (.iconst 4, 1) := by decide +kernel
theorem dX11_variant_165 : decode cX11_variant 165 = .ok (.iload_n 2, 1) := by decide +kernel
theorem dX11_variant_166 : decode cX11_variant 166 = .ok (.invokevirtual 106, 3) := by decide +kernel
theorem dX11_variant_169 : decode cX11_variant 169 = .ok (.aload_n 0, 1) := by decide +kernel
theorem dX11_variant_170 : decode cX11_variant 170 = .ok (.getfield 23, 3) := by decide +kernel
theorem dX11_variant_173 : decode cX11_variant 173 = .ok (.bipush 11, 2) := by decide +kernel
theorem dX11_variant_175 : decode cX11_variant 175 = .ok (.iload 4, 2) := by decide +kernel
theorem dX11_variant_177 : decode cX11_variant 177 = .ok (.invokevirtual 141, 3) := by decide +kernel
theorem dX11_variant_180 : decode cX11_variant 180 = .ok (.iconst 1, 1) := by decide +kernel
theorem dX11_variant_181 : decode cX11_variant 181 = .ok (.istore 7, 2) := by decide +kernel
theorem dX11_variant_183 : decode cX11_variant 183 = .ok (.aload_n 0, 1) := by decide +kernel
theorem dX11_variant_184 : decode cX11_variant 184 = .ok (.getfield 9, 3) := by decide +kernel
theorem dX11_variant_187 : decode cX11_variant 187 = .ok (.bipush 40, 2) := by decide +kernel
theorem dX11_variant_189 : decode cX11_variant 189 = .ok (.invokevirtual 164, 3) := by decide +kernel
theorem dX11_variant_192 : decode cX11_variant 192 = .ok (.pop, 1) := by decide +kernel
theorem dX11_variant_193 : decode cX11_variant 193 = .ok (.iconst 0, 1) := by decide +kernel
theorem dX11_variant_194 : decode cX11_variant 194 = .ok (.istore 8, 2) := by decide +kernel
theorem dX11_variant_196 : decode cX11_variant 196 = .ok (.iload 8, 2) := by decide +kernel
theorem dX11_variant_198 : decode cX11_variant 198 = .ok (.iload 6, 2) := by decide +kernel
theorem dX11_variant_200 : decode cX11_variant 200 = .ok (.if_icmp .ge 69, 3) := by decide +kernel
theorem dX11_variant_203 : decode cX11_variant 203 = .ok (.aload_n 0, 1) := by decide +kernel
theorem dX11_variant_204 : decode cX11_variant 204 = .ok (.getfield 9, 3) := by decide +kernel
theorem dX11_variant_207 : decode cX11_variant 207 = .ok (.getfield 38, 3) := by decide +kernel
theorem dX11_variant_210 : decode cX11_variant 210 = .ok (.ifCond .ne 59, 3) := by decide +kernel
theorem dX11_variant_213 : decode cX11_variant 213 = .ok (.aload_n 0, 1) := by decide +kernel
theorem dX11_variant_214 : decode cX11_variant 214 = .ok (.getfield 15, 3) := by decide +kernel
theorem dX11_variant_217 : decode cX11_variant 217 = .ok (.getfield 250, 3) := by decide +kernel
theorem dX11_variant_220 : decode cX11_variant 220 = .ok (.iload 5, 2) := by decide +kernel
theorem dX11_variant_222 : decode cX11_variant 222 = .ok (.bipush 12, 2) := by decide +kernel
theorem dX11_variant_224 : decode cX11_variant 224 = .ok (.imul, 1) := by decide +kernel
theorem dX11_variant_225 : decode cX11_variant 225 = .ok (.iload 8, 2) := by decide +kernel
theorem dX11_variant_227 : decode cX11_variant 227 = .ok (.iadd, 1) := by decide +kernel
theorem dX11_variant_228 : decode cX11_variant 228 = .ok (.iaload, 1) := by decide +kernel
theorem dX11_variant_229 : decode cX11_variant 229 = .ok (.istore 9, 2) := by decide +kernel
theorem dX11_variant_231 : decode cX11_variant 231 = .ok (.aload_n 0, 1) := by decide +kernel
theorem dX11_variant_232 : decode cX11_variant 232 = .ok (.iload 9, 2) := by decide +kernel
theorem dX11_variant_234 : decode cX11_variant 234 = .ok (.iload_n 1, 1) := by decide +kernel
theorem dX11_variant_235 : decode cX11_variant 235 = .ok (.iconst 1, 1) := by decide +kernel
theorem dX11_variant_236 : decode cX11_variant 236 = .ok (.iadd, 1) := by decide +kernel
theorem dX11_variant_237 : decode cX11_variant 237 = .ok (.invokevirtual 200, 3) := by decide +kernel
theorem dX11_variant_240 : decode cX11_variant 240 = .ok (.iload 7, 2) := by decide +kernel
theorem dX11_variant_242 : decode cX11_variant 242 = .ok (.aload_n 0, 1) := by decide +kernel
theorem dX11_variant_243 : decode cX11_variant 243 = .ok (.getfield 15, 3) := by decide +kernel
theorem dX11_variant_246 : decode cX11_variant 246 = .ok (.getfield 63, 3) := by decide +kernel
theorem dX11_variant_249 : decode cX11_variant 249 = .ok (.iload 9, 2) := by decide +kernel
theorem dX11_variant_251 : decode cX11_variant 251 = .ok (.iaload, 1) := by decide +kernel
theorem dX11_variant_252 : decode cX11_variant 252 = .ok (.iadd, 1) := by decide +kernel
theorem dX11_variant_253 : decode cX11_variant 253 = .ok (.istore 7, 2) := by decide +kernel
theorem dX11_variant_255 : decode cX11_variant 255 = .ok (.aload_n 0, 1) := by decide +kernel
theorem dX11_variant_256 : decode cX11_variant 256 = .ok (.getfield 9, 3) := by decide +kernel
theorem dX11_variant_259 : decode cX11_variant 259 = .ok (.iconst 1, 1) := by decide +kernel
theorem dX11_variant_260 : decode cX11_variant 260 = .ok (.invokevirtual 120, 3) := by decide +kernel
theorem dX11_variant_263 : decode cX11_variant 263 = .ok (.iinc 8 1, 3) := by decide +kernel
theorem dX11_variant_266 : decode cX11_variant 266 = .ok (.goto (-70), 3) := by decide +kernel
theorem dX11_variant_269 : decode cX11_variant 269 = .ok (.aload_n 0, 1) := by decide +kernel
theorem dX11_variant_270 : decode cX11_variant 270 = .ok (.getfield 23, 3) := by decide +kernel
theorem dX11_variant_273 : decode cX11_variant 273 = .ok (.bipush 12, 2) := by decide +kernel
theorem dX11_variant_275 : decode cX11_variant 275 = .ok (.aload_n 0, 1) := by decide +kernel
theorem dX11_variant_276 : decode cX11_variant 276 = .ok (.getfield 15, 3) := by decide +kernel
theorem dX11_variant_279 : decode cX11_variant 279 = .ok (.getfield 63, 3) := by decide +kernel
theorem dX11_variant_282 : decode cX11_variant 282 = .ok (.iconst 4, 1) := by decide +kernel
theorem dX11_variant_283 : decode cX11_variant 283 = .ok (.iload_n 3, 1) := by decide +kernel
theorem dX11_variant_284 : decode cX11_variant 284 = .ok (.iadd, 1) := by decide +kernel
theorem dX11_variant_285 : decode cX11_variant 285 = .ok (.iaload, 1) := by decide +kernel
theorem dX11_variant_286 : decode cX11_variant 286 = .ok (.iload 7, 2) := by decide +kernel
theorem dX11_variant_288 : decode cX11_variant 288 = .ok (.isub, 1) := by decide +kernel
theorem dX11_variant_289 : decode cX11_variant 289 = .ok (.iload 6, 2) := by decide +kernel
theorem dX11_variant_291 : decode cX11_variant 291 = .ok (.iconst 0, 1) := by decide +kernel
theorem dX11_variant_292 : decode cX11_variant 292 = .ok (.iconst (-1), 1) := by decide +kernel
theorem dX11_variant_293 : decode cX11_variant 293 = .ok (.invokevirtual 110, 3) := by decide +kernel
theorem dX11_variant_296 : decode cX11_variant 296 = .ok (.aload_n 0, 1) := by decide +kernel
theorem dX11_variant_297 : decode cX11_variant 297 = .ok (.iconst 4, 1) := by decide +kernel
theorem dX11_variant_298 : decode cX11_variant 298 = .ok (.iload_n 3, 1) := by decide +kernel
theorem dX11_variant_299 : decode cX11_variant 299 = .ok (.iadd, 1) := by decide +kernel
theorem dX11_variant_300 : decode cX11_variant 300 = .ok (.invokevirtual 311, 3) := by decide +kernel
theorem dX11_variant_303 : decode cX11_variant 303 = .ok (.return_, 1) := by decide +kernel
theorem dX11_wholeVariable_0 : decode cX11_wholeVariable 0 = .ok (.iconst 0, 1) := by decide +kernel
theorem dX11_wholeVariable_1 : decode cX11_wholeVariable 1 = .ok (.istore_n 3, 1) := by decide +kernel
theorem dX11_wholeVariable_2 : decode cX11_wholeVariable 2 = .ok (.iload_n 1, 1) := by decide +kernel
theorem dX11_wholeVariable_3 : decode cX11_wholeVariable 3 = .ok (.iload_n 3, 1) := by decide +kernel
theorem dX11_wholeVariable_4 : decode cX11_wholeVariable 4 = .ok (.iadd, 1) := by decide +kernel
theorem dX11_wholeVariable_5 : decode cX11_wholeVariable 5 = .ok (.iload_n 2, 1) := by decide +kernel
theorem dX11_wholeVariable_6 : decode cX11_wholeVariable 6 = .ok (.if_icmp .ge 25, 3) := by decide +kernel
theorem dX11_wholeVariable_9 : decode cX11_wholeVariable 9 = .ok (.aload_n 0, 1) := by decide +kernel
theorem dX11_wholeVariable_10 : decode cX11_wholeVariable 10 = .ok (.getfield 9, 3) := by decide +kernel
theorem dX11_wholeVariable_13 : decode cX11_wholeVariable 13 = .ok (.getfield 194, 3) := by decide +kernel
theorem dX11_wholeVariable_16 : decode cX11_wholeVariable 16 = .ok (.iload_n 1, 1) := by decide +kernel
theorem dX11_wholeVariable_17 : decode cX11_wholeVariable 17 = .ok (.iload_n 3, 1) := by decide +kernel
theorem dX11_wholeVariable_18 : decode cX11_wholeVariable 18 = .ok (.iadd, 1) := by decide +kernel
theorem dX11_wholeVariable_19 : decode cX11_wholeVariable 19 = .ok (.iaload, 1) := by decide +kernel
theorem dX11_wholeVariable_20 : decode cX11_wholeVariable 20 = .ok (.bipush 40, 2) := by decide +kernel
theorem dX11_wholeVariable_22 : decode cX11_wholeVariable 22 = .ok (.if_icmp .ne 9, 3) := by decide +kernel
theorem dX11_wholeVariable_25 : decode cX11_wholeVariable 25 = .ok (.iinc 3 1, 3) := by decide +kernel
theorem dX11_wholeVariable_28 : decode cX11_wholeVariable 28 = .ok (.goto (-26), 3) := by decide +kernel
theorem dX11_wholeVariable_31 : decode cX11_wholeVariable 31 = .ok (.iload_n 1, 1) := by decide +kernel
theorem dX11_wholeVariable_32 : decode cX11_wholeVariable 32 = .ok (.iload_n 3, 1) := by decide +kernel
theorem dX11_wholeVariable_33 : decode cX11_wholeVariable 33 = .ok (.iadd, 1) := by decide +kernel
theorem dX11_wholeVariable_34 : decode cX11_wholeVariable 34 = .ok (.istore 4, 2) := by decide +kernel
theorem dX11_wholeVariable_36 : decode cX11_wholeVariable 36 = .ok (.aload_n 0, 1) := by decide +kernel
theorem dX11_wholeVariable_37 : decode cX11_wholeVariable 37 = .ok (.getfield 9, 3) := by decide +kernel
theorem dX11_wholeVariable_40 : decode cX11_wholeVariable 40 = .ok (.getfield 194, 3) := by decide +kernel
theorem dX11_wholeVariable_43 : decode cX11_wholeVariable 43 = .ok (.iload 4, 2) := by decide +kernel
theorem dX11_wholeVariable_45 : decode cX11_wholeVariable 45 = .ok (.iaload, 1) := by decide +kernel
theorem dX11_wholeVariable_46 : decode cX11_wholeVariable 46 = .ok (.iconst 2, 1) := by decide +kernel
theorem dX11_wholeVariable_47 : decode cX11_wholeVariable 47 = .ok (.if_icmp .ne 17, 3) := by decide +kernel
theorem dX11_wholeVariable_50 : decode cX11_wholeVariable 50 = .ok (.iload 4, 2) := by decide +kernel
theorem dX11_wholeVariable_52 : decode cX11_wholeVariable 52 = .ok (.iload_n 3, 1) := by decide +kernel
theorem dX11_wholeVariable_53 : decode cX11_wholeVariable 53 = .ok (.iadd, 1) := by decide +kernel
theorem dX11_wholeVariable_54 : decode cX11_wholeVariable 54 = .ok (.iconst 1, 1) := by decide +kernel
theorem dX11_wholeVariable_55 : decode cX11_wholeVariable 55 = .ok (.iadd, 1) := by decide +kernel
theorem dX11_wholeVariable_56 : decode cX11_wholeVariable 56 = .ok (.iload_n 2, 1) := by decide +kernel
theorem dX11_wholeVariable_57 : decode cX11_wholeVariable 57 = .ok (.if_icmp .ne 7, 3) := by decide +kernel
theorem dX11_wholeVariable_60 : decode cX11_wholeVariable 60 = .ok (.iconst 1, 1) := by decide +kernel
theorem dX11_wholeVariable_61 : decode cX11_wholeVariable 61 = .ok (.goto 4, 3) := by decide +kernel
theorem dX11_wholeVariable_64 : decode cX11_wholeVariable 64 = .ok (.iconst 0, 1) := by decide +kernel
theorem dX11_wholeVariable_65 : decode cX11_wholeVariable 65 = .ok (.istore 5, 2) := by decide +kernel
theorem dX11_wholeVariable_67 : decode cX11_wholeVariable 67 = .ok (.iload 5, 2) := by decide +kernel
theorem dX11_wholeVariable_69 : decode cX11_wholeVariable 69 = .ok (.ifCond .eq 23, 3) := by decide +kernel
theorem dX11_wholeVariable_72 : decode cX11_wholeVariable 72 = .ok (.aload_n 0, 1) := by decide +kernel
theorem dX11_wholeVariable_73 : decode cX11_wholeVariable 73 = .ok (.getfield 47, 3) := by decide +kernel
theorem dX11_wholeVariable_76 : decode cX11_wholeVariable 76 = .ok (.aload_n 0, 1) := by decide +kernel
theorem dX11_wholeVariable_77 : decode cX11_wholeVariable 77 = .ok (.getfield 9, 3) := by decide +kernel
theorem dX11_wholeVariable_80 : decode cX11_wholeVariable 80 = .ok (.getfield 167, 3) := by decide +kernel
theorem dX11_wholeVariable_83 : decode cX11_wholeVariable 83 = .ok (.iload 4, 2) := by decide +kernel
theorem dX11_wholeVariable_85 : decode cX11_wholeVariable 85 = .ok (.iaload, 1) := by decide +kernel
theorem dX11_wholeVariable_86 : decode cX11_wholeVariable 86 = .ok (.invokevirtual 197, 3) := by decide +kernel
theorem dX11_wholeVariable_89 : decode cX11_wholeVariable 89 = .ok (.goto 4, 3) := by decide +kernel
theorem dX11_wholeVariable_92 : decode cX11_wholeVariable 92 = .ok (.iconst (-1), 1) := by decide +kernel
theorem dX11_wholeVariable_93 : decode cX11_wholeVariable 93 = .ok (.ireturn, 1) := by decide +kernel
