theorem dX23_fields_0 : decode cX23_fields 0 = .ok (.aload_n 0, 1) := by decide +kernel
theorem dX23_fields_1 : decode cX23_fields 1 = .ok (.aload_n 1, 1) := by decide +kernel
theorem dX23_fields_2 : decode cX23_fields 2 = .ok (.getfield 139, 3) := by decide +kernel
theorem dX23_fields_5 : decode cX23_fields 5 = .ok (.bipush 12, 2) := by decide +kernel
theorem dX23_fields_7 : decode cX23_fields 7 = .ok (.invokevirtual 144, 3) := by decide +kernel
theorem dX23_fields_10 : decode cX23_fields 10 = .ok (.aload_n 1, 1) := by decide +kernel
theorem dX23_fields_11 : decode cX23_fields 11 = .ok (.getfield 147, 3) := by decide +kernel
theorem dX23_fields_14 : decode cX23_fields 14 = .ok (.aload_n 1, 1) := by decide +kernel
theorem dX23_fields_15 : decode cX23_fields 15 = .ok (.getfield 139, 3) := by decide +kernel
theorem dX23_fields_18 : decode cX23_fields 18 = .ok (.bipush 13, 2) := by decide +kernel
theorem dX23_fields_20 : decode cX23_fields 20 = .ok (.if_icmp .ge 10, 3) := by decide +kernel
theorem dX23_fields_23 : decode cX23_fields 23 = .ok (.aload_n 1, 1) := by decide +kernel
theorem dX23_fields_24 : decode cX23_fields 24 = .ok (.getfield 139, 3) := by decide +kernel
theorem dX23_fields_27 : decode cX23_fields 27 = .ok (.goto 5, 3) := by decide +kernel
theorem dX23_fields_30 : decode cX23_fields 30 = .ok (.bipush 12, 2) := by decide +kernel
theorem dX23_fields_32 : decode cX23_fields 32 = .ok (.aload_n 0, 1) := by decide +kernel
theorem dX23_fields_33 : decode cX23_fields 33 = .ok (.invokevirtual 150, 3) := by decide +kernel
theorem dX23_fields_36 : decode cX23_fields 36 = .ok (.iastore, 1) := by decide +kernel
theorem dX23_fields_37 : decode cX23_fields 37 = .ok (.aload_n 0, 1) := by decide +kernel
theorem dX23_fields_38 : decode cX23_fields 38 = .ok (.bipush 58, 2) := by decide +kernel
theorem dX23_fields_40 : decode cX23_fields 40 = .ok (.invokevirtual 100, 3) := by decide +kernel
theorem dX23_fields_43 : decode cX23_fields 43 = .ok (.aload_n 1, 1) := by decide +kernel
theorem dX23_fields_44 : decode cX23_fields 44 = .ok (.getfield 153, 3) := by decide +kernel
theorem dX23_fields_47 : decode cX23_fields 47 = .ok (.aload_n 1, 1) := by decide +kernel
theorem dX23_fields_48 : decode cX23_fields 48 = .ok (.getfield 139, 3) := by decide +kernel
theorem dX23_fields_51 : decode cX23_fields 51 = .ok (.bipush 13, 2) := by decide +kernel
theorem dX23_fields_53 : decode cX23_fields 53 = .ok (.if_icmp .ge 10, 3) := by decide +kernel
theorem dX23_fields_56 : decode cX23_fields 56 = .ok (.aload_n 1, 1) := by decide +kernel
theorem dX23_fields_57 : decode cX23_fields 57 = .ok (.getfield 139, 3) := by decide +kernel
theorem dX23_fields_60 : decode cX23_fields 60 = .ok (.goto 5, 3) := by decide +kernel
theorem dX23_fields_63 : decode cX23_fields 63 = .ok (.bipush 12, 2) := by decide +kernel
theorem dX23_fields_65 : decode cX23_fields 65 = .ok (.aload_n 0, 1) := by decide +kernel
theorem dX23_fields_66 : decode cX23_fields 66 = .ok (.invokevirtual 131, 3) := by decide +kernel
theorem dX23_fields_69 : decode cX23_fields 69 = .ok (.aastore, 1) := by decide +kernel
theorem dX23_fields_70 : decode cX23_fields 70 = .ok (.aload_n 1, 1) := by decide +kernel
theorem dX23_fields_71 : decode cX23_fields 71 = .ok (.dup, 1) := by decide +kernel
theorem dX23_fields_72 : decode cX23_fields 72 = .ok (.getfield 139, 3) := by decide +kernel
theorem dX23_fields_75 : decode cX23_fields 75 = .ok (.iconst 1, 1) := by decide +kernel
theorem dX23_fields_76 : decode cX23_fields 76 = .ok (.iadd, 1) := by decide +kernel
theorem dX23_fields_77 : decode cX23_fields 77 = .ok (.putfield 139, 3) := by decide +kernel
theorem dX23_fields_80 : decode cX23_fields 80 = .ok (.return_, 1) := by decide +kernel
theorem dX23_variant_0 : decode cX23_variant 0 = .ok (.aload_n 0, 1) := by decide +kernel
theorem dX23_variant_1 : decode cX23_variant 1 = .ok (.aload_n 1, 1) := by decide +kernel
theorem dX23_variant_2 : decode cX23_variant 2 = .ok (.getfield 139, 3) := by decide +kernel
theorem dX23_variant_5 : decode cX23_variant 5 = .ok (.bipush 12, 2) := by decide +kernel
theorem dX23_variant_7 : decode cX23_variant 7 = .ok (.invokevirtual 144, 3) := by decide +kernel
theorem dX23_variant_10 : decode cX23_variant 10 = .ok (.new 156, 3) := by decide +kernel
theorem dX23_variant_13 : decode cX23_variant 13 = .ok (.dup, 1) := by decide +kernel
theorem dX23_variant_14 : decode cX23_variant 14 = .ok (.invokespecial 158, 3) := by decide +kernel
theorem dX23_variant_17 : decode cX23_variant 17 = .ok (.astore_n 2, 1) := by decide +kernel
theorem dX23_variant_18 : decode cX23_variant 18 = .ok (.aload_n 1, 1) := by decide +kernel
theorem dX23_variant_19 : decode cX23_variant 19 = .ok (.getfield 147, 3) := by decide +kernel
theorem dX23_variant_22 : decode cX23_variant 22 = .ok (.aload_n 1, 1) := by decide +kernel
theorem dX23_variant_23 : decode cX23_variant 23 = .ok (.getfield 139, 3) := by decide +kernel
theorem dX23_variant_26 : decode cX23_variant 26 = .ok (.bipush 13, 2) := by decide +kernel
theorem dX23_variant_28 : decode cX23_variant 28 = .ok (.if_icmp .ge 10, 3) := by decide +kernel
theorem dX23_variant_31 : decode cX23_variant 31 = .ok (.aload_n 1, 1) := by decide +kernel
theorem dX23_variant_32 : decode cX23_variant 32 = .ok (.getfield 139, 3) := by decide +kernel
theorem dX23_variant_35 : decode cX23_variant 35 = .ok (.goto 5, 3) := by decide +kernel
theorem dX23_variant_38 : decode cX23_variant 38 = .ok (.bipush 12, 2) := by decide +kernel
theorem dX23_variant_40 : decode cX23_variant 40 = .ok (.aload_n 0, 1) := by decide +kernel
theorem dX23_variant_41 : decode cX23_variant 41 = .ok (.invokevirtual 150, 3) := by decide +kernel
theorem dX23_variant_44 : decode cX23_variant 44 = .ok (.iastore, 1) := by decide +kernel
theorem dX23_variant_45 : decode cX23_variant 45 = .ok (.aload_n 1, 1) := by decide +kernel
theorem dX23_variant_46 : decode cX23_variant 46 = .ok (.getfield 159, 3) := by decide +kernel
theorem dX23_variant_49 : decode cX23_variant 49 = .ok (.aload_n 1, 1) := by decide +kernel
theorem dX23_variant_50 : decode cX23_variant 50 = .ok (.getfield 139, 3) := by decide +kernel
theorem dX23_variant_53 : decode cX23_variant 53 = .ok (.bipush 13, 2) := by decide +kernel
theorem dX23_variant_55 : decode cX23_variant 55 = .ok (.if_icmp .ge 10, 3) := by decide +kernel
theorem dX23_variant_58 : decode cX23_variant 58 = .ok (.aload_n 1, 1) := by decide +kernel
theorem dX23_variant_59 : decode cX23_variant 59 = .ok (.getfield 139, 3) := by decide +kernel
theorem dX23_variant_62 : decode cX23_variant 62 = .ok (.goto 5, 3) := by decide +kernel
theorem dX23_variant_65 : decode cX23_variant 65 = .ok (.bipush 12, 2) := by decide +kernel
theorem dX23_variant_67 : decode cX23_variant 67 = .ok (.aload_n 2, 1) := by decide +kernel
theorem dX23_variant_68 : decode cX23_variant 68 = .ok (.aastore, 1) := by decide +kernel
theorem dX23_variant_69 : decode cX23_variant 69 = .ok (.aload_n 1, 1) := by decide +kernel
theorem dX23_variant_70 : decode cX23_variant 70 = .ok (.dup, 1) := by decide +kernel
theorem dX23_variant_71 : decode cX23_variant 71 = .ok (.getfield 139, 3) := by decide +kernel
theorem dX23_variant_74 : decode cX23_variant 74 = .ok (.iconst 1, 1) := by decide +kernel
theorem dX23_variant_75 : decode cX23_variant 75 = .ok (.iadd, 1) := by decide +kernel
theorem dX23_variant_76 : decode cX23_variant 76 = .ok (.putfield 139, 3) := by decide +kernel
theorem dX23_variant_79 : decode cX23_variant 79 = .ok (.aload_n 0, 1) := by decide +kernel
theorem dX23_variant_80 : decode cX23_variant 80 = .ok (.bipush 61, 2) := by decide +kernel
theorem dX23_variant_82 : decode cX23_variant 82 = .ok (.invokevirtual 125, 3) := by decide +kernel
theorem dX23_variant_85 : decode cX23_variant 85 = .ok (.ifCond .ne 4, 3) := by decide +kernel
theorem dX23_variant_88 : decode cX23_variant 88 = .ok (.return_, 1) := by decide +kernel
theorem dX23_variant_89 : decode cX23_variant 89 = .ok (.aload_n 2, 1) := by decide +kernel
theorem dX23_variant_90 : decode cX23_variant 90 = .ok (.bipush 12, 2) := by decide +kernel
theorem dX23_variant_92 : decode cX23_variant 92 = .ok (.anewarray 107, 3) := by decide +kernel
theorem dX23_variant_95 : decode cX23_variant 95 = .ok (.putfield 163, 3) := by decide +kernel
theorem dX23_variant_98 : decode cX23_variant 98 = .ok (.aload_n 2, 1) := by decide +kernel
theorem dX23_variant_99 : decode cX23_variant 99 = .ok (.bipush 12, 2) := by decide +kernel
theorem dX23_variant_101 : decode cX23_variant 101 = .ok (.anewarray 164, 3) := by decide +kernel
theorem dX23_variant_104 : decode cX23_variant 104 = .ok (.putfield 166, 3) := by decide +kernel
theorem dX23_variant_107 : decode cX23_variant 107 = .ok (.iconst 1, 1) := by decide +kernel
theorem dX23_variant_108 : decode cX23_variant 108 = .ok (.istore_n 3, 1) := by decide +kernel
theorem dX23_variant_109 : decode cX23_variant 109 = .ok (.aload_n 0, 1) := by decide +kernel
theorem dX23_variant_110 : decode cX23_variant 110 = .ok (.invokevirtual 89, 3) := by decide +kernel
theorem dX23_variant_113 : decode cX23_variant 113 = .ok (.ifCond .eq 134, 3) := by decide +kernel
theorem dX23_variant_116 : decode cX23_variant 116 = .ok (.iload_n 3, 1) := by decide +kernel
theorem dX23_variant_117 : decode cX23_variant 117 = .ok (.ifCond .eq 130, 3) := by decide +kernel
theorem dX23_variant_120 : decode cX23_variant 120 = .ok (.aload_n 0, 1) := by decide +kernel
theorem dX23_variant_121 : decode cX23_variant 121 = .ok (.bipush 26, 2) := by decide +kernel
theorem dX23_variant_123 : decode cX23_variant 123 = .ok (.invokevirtual 93, 3) := by decide +kernel
theorem dX23_variant_126 : decode cX23_variant 126 = .ok (.ifCond .ne 47, 3) := by decide +kernel
theorem dX23_variant_129 : decode cX23_variant 129 = .ok (.aload_n 0, 1) := by decide +kernel
theorem dX23_variant_130 : decode cX23_variant 130 = .ok (.bipush 27, 2) := by decide +kernel
theorem dX23_variant_132 : decode cX23_variant 132 = .ok (.invokevirtual 93, 3) := by decide +kernel
theorem dX23_variant_135 : decode cX23_variant 135 = .ok (.ifCond .ne 38, 3) := by decide +kernel
theorem dX23_variant_138 : decode cX23_variant 138 = .ok (.aload_n 0, 1) := by decide +kernel
theorem dX23_variant_139 : decode cX23_variant 139 = .ok (.bipush 25, 2) := by decide +kernel
theorem dX23_variant_141 : decode cX23_variant 141 = .ok (.invokevirtual 93, 3) := by decide +kernel
theorem dX23_variant_144 : decode cX23_variant 144 = .ok (.ifCond .ne 29, 3) := by decide +kernel
theorem dX23_variant_147 : decode cX23_variant 147 = .ok (.aload_n 0, 1) := by decide +kernel
theorem dX23_variant_148 : decode cX23_variant 148 = .ok (.iconst 2, 1) := by decide +kernel
theorem dX23_variant_149 : decode cX23_variant 149 = .ok (.invokevirtual 93, 3) := by decide +kernel
theorem dX23_variant_152 : decode cX23_variant 152 = .ok (.ifCond .ne 21, 3) := by decide +kernel
theorem dX23_variant_155 : decode cX23_variant 155 = .ok (.aload_n 0, 1) := by decide +kernel
theorem dX23_variant_156 : decode cX23_variant 156 = .ok (.bipush 23, 2) := by decide +kernel
theorem dX23_variant_158 : decode cX23_variant 158 = .ok (.invokevirtual 93, 3) := by decide +kernel
theorem dX23_variant_161 : decode cX23_variant 161 = .ok (.ifCond .ne 12, 3) := by decide +kernel
theorem dX23_variant_164 : decode cX23_variant 164 = .ok (.aload_n 0, 1) := by decide +kernel
theorem dX23_variant_165 : decode cX23_variant 165 = .ok (.bipush 55, 2) := by decide +kernel
theorem dX23_variant_167 : decode cX23_variant 167 = .ok (.invokevirtual 93, 3) := by decide +kernel
theorem dX23_variant_170 : decode cX23_variant 170 = .ok (.ifCond .eq 7, 3) := by decide +kernel
theorem dX23_variant_173 : decode cX23_variant 173 = .ok (.iconst 1, 1) := by decide +kernel
theorem dX23_variant_174 : decode cX23_variant 174 = .ok (.goto 4, 3) := by decide +kernel
theorem dX23_variant_177 : decode cX23_variant 177 = .ok (.iconst 0, 1) := by decide +kernel
theorem dX23_variant_178 : decode cX23_variant 178 = .ok (.istore 4, 2) := by decide +kernel
theorem dX23_variant_180 : decode cX23_variant 180 = .ok (.iload 4, 2) := by decide +kernel
theorem dX23_variant_182 : decode cX23_variant 182 = .ok (.ifCond .eq 21, 3) := by decide +kernel
theorem dX23_variant_185 : decode cX23_variant 185 = .ok (.aload_n 2, 1) := by decide +kernel
theorem dX23_variant_186 : decode cX23_variant 186 = .ok (.getfield 170, 3) := by decide +kernel
theorem dX23_variant_189 : decode cX23_variant 189 = .ok (.bipush 12, 2) := by decide +kernel
theorem dX23_variant_191 : decode cX23_variant 191 = .ok (.if_icmp .ne 12, 3) := by decide +kernel
theorem dX23_variant_194 : decode cX23_variant 194 = .ok (.aload_n 0, 1) := by decide +kernel
theorem dX23_variant_195 : decode cX23_variant 195 = .ok (.iconst 2, 1) := by decide +kernel
theorem dX23_variant_196 : decode cX23_variant 196 = .ok (.aload_n 0, 1) := by decide +kernel
theorem dX23_variant_197 : decode cX23_variant 197 = .ok (.getfield 86, 3) := by decide +kernel
theorem dX23_variant_200 : decode cX23_variant 200 = .ok (.invokevirtual 96, 3) := by decide +kernel
theorem dX23_variant_203 : decode cX23_variant 203 = .ok (.aload_n 0, 1) := by decide +kernel
theorem dX23_variant_204 : decode cX23_variant 204 = .ok (.invokevirtual 131, 3) := by decide +kernel
theorem dX23_variant_207 : decode cX23_variant 207 = .ok (.astore 5, 2) := by decide +kernel
theorem dX23_variant_209 : decode cX23_variant 209 = .ok (.aload_n 0, 1) := by decide +kernel
theorem dX23_variant_210 : decode cX23_variant 210 = .ok (.invokevirtual 89, 3) := by decide +kernel
theorem dX23_variant_213 : decode cX23_variant 213 = .ok (.ifCond .eq 14, 3) := by decide +kernel
theorem dX23_variant_216 : decode cX23_variant 216 = .ok (.aload_n 2, 1) := by decide +kernel
theorem dX23_variant_217 : decode cX23_variant 217 = .ok (.getfield 163, 3) := by decide +kernel
theorem dX23_variant_220 : decode cX23_variant 220 = .ok (.aload_n 2, 1) := by decide +kernel
theorem dX23_variant_221 : decode cX23_variant 221 = .ok (.getfield 170, 3) := by decide +kernel
theorem dX23_variant_224 : decode cX23_variant 224 = .ok (.aload 5, 2) := by decide +kernel
theorem dX23_variant_226 : decode cX23_variant 226 = .ok (.aastore, 1) := by decide +kernel
theorem dX23_variant_227 : decode cX23_variant 227 = .ok (.aload_n 2, 1) := by decide +kernel
theorem dX23_variant_228 : decode cX23_variant 228 = .ok (.dup, 1) := by decide +kernel
theorem dX23_variant_229 : decode cX23_variant 229 = .ok (.getfield 170, 3) := by decide +kernel
theorem dX23_variant_232 : decode cX23_variant 232 = .ok (.iconst 1, 1) := by decide +kernel
theorem dX23_variant_233 : decode cX23_variant 233 = .ok (.iadd, 1) := by decide +kernel
theorem dX23_variant_234 : decode cX23_variant 234 = .ok (.putfield 170, 3) := by decide +kernel
theorem dX23_variant_237 : decode cX23_variant 237 = .ok (.aload_n 0, 1) := by decide +kernel
theorem dX23_variant_238 : decode cX23_variant 238 = .ok (.bipush 57, 2) := by decide +kernel
theorem dX23_variant_240 : decode cX23_variant 240 = .ok (.invokevirtual 125, 3) := by decide +kernel
theorem dX23_variant_243 : decode cX23_variant 243 = .ok (.istore_n 3, 1) := by decide +kernel
theorem dX23_variant_244 : decode cX23_variant 244 = .ok (.goto (-135), 3) := by decide +kernel
theorem dX23_variant_247 : decode cX23_variant 247 = .ok (.aload_n 0, 1) := by decide +kernel
theorem dX23_variant_248 : decode cX23_variant 248 = .ok (.bipush 62, 2) := by decide +kernel
theorem dX23_variant_250 : decode cX23_variant 250 = .ok (.invokevirtual 100, 3) := by decide +kernel
theorem dX23_variant_253 : decode cX23_variant 253 = .ok (.return_, 1) := by decide +kernel
theorem dX23_typeItem_0 : decode cX23_typeItem 0 = .ok (.aload_n 0, 1) := by decide +kernel
theorem dX23_typeItem_1 : decode cX23_typeItem 1 = .ok (.getfield 171, 3) := by decide +kernel
theorem dX23_typeItem_4 : decode cX23_typeItem 4 = .ok (.bipush 30, 2) := by decide +kernel
theorem dX23_typeItem_6 : decode cX23_typeItem 6 = .ok (.if_icmp .ne 12, 3) := by decide +kernel
theorem dX23_typeItem_9 : decode cX23_typeItem 9 = .ok (.aload_n 0, 1) := by decide +kernel
theorem dX23_typeItem_10 : decode cX23_typeItem 10 = .ok (.iconst 2, 1) := by decide +kernel
theorem dX23_typeItem_11 : decode cX23_typeItem 11 = .ok (.aload_n 0, 1) := by decide +kernel
theorem dX23_typeItem_12 : decode cX23_typeItem 12 = .ok (.getfield 86, 3) := by decide +kernel
theorem dX23_typeItem_15 : decode cX23_typeItem 15 = .ok (.invokevirtual 96, 3) := by decide +kernel
theorem dX23_typeItem_18 : decode cX23_typeItem 18 = .ok (.aload_n 0, 1) := by decide +kernel
theorem dX23_typeItem_19 : decode cX23_typeItem 19 = .ok (.dup, 1) := by decide +kernel
theorem dX23_typeItem_20 : decode cX23_typeItem 20 = .ok (.getfield 171, 3) := by decide +kernel
theorem dX23_typeItem_23 : decode cX23_typeItem 23 = .ok (.iconst 1, 1) := by decide +kernel
theorem dX23_typeItem_24 : decode cX23_typeItem 24 = .ok (.iadd, 1) := by decide +kernel
theorem dX23_typeItem_25 : decode cX23_typeItem 25 = .ok (.putfield 171, 3) := by decide +kernel
theorem dX23_typeItem_28 : decode cX23_typeItem 28 = .ok (.aload_n 0, 1) := by decide +kernel
theorem dX23_typeItem_29 : decode cX23_typeItem 29 = .ok (.dup, 1) := by decide +kernel
theorem dX23_typeItem_30 : decode cX23_typeItem 30 = .ok (.getfield 86, 3) := by decide +kernel
theorem dX23_typeItem_33 : decode cX23_typeItem 33 = .ok (.iconst 1, 1) := by decide +kernel
theorem dX23_typeItem_34 : decode cX23_typeItem 34 = .ok (.iadd, 1) := by decide +kernel
theorem dX23_typeItem_35 : decode cX23_typeItem 35 = .ok (.putfield 86, 3) := by decide +kernel
theorem dX23_typeItem_38 : decode cX23_typeItem 38 = .ok (.aload_n 1, 1) := by decide +kernel
theorem dX23_typeItem_39 : decode cX23_typeItem 39 = .ok (.aload_n 1, 1) := by decide +kernel
theorem dX23_typeItem_40 : decode cX23_typeItem 40 = .ok (.getfield 174, 3) := by decide +kernel
theorem dX23_typeItem_43 : decode cX23_typeItem 43 = .ok (.bipush 10, 2) := by decide +kernel
theorem dX23_typeItem_45 : decode cX23_typeItem 45 = .ok (.if_icmp .ne 11, 3) := by decide +kernel
theorem dX23_typeItem_48 : decode cX23_typeItem 48 = .ok (.bipush 13, 2) := by decide +kernel
theorem dX23_typeItem_50 : decode cX23_typeItem 50 = .ok (.anewarray 107, 3) := by decide +kernel
theorem dX23_typeItem_53 : decode cX23_typeItem 53 = .ok (.goto 4, 3) := by decide +kernel
theorem dX23_typeItem_56 : decode cX23_typeItem 56 = .ok (.aconst_null, 1) := by decide +kernel
theorem dX23_typeItem_57 : decode cX23_typeItem 57 = .ok (.putfield 153, 3) := by decide +kernel
theorem dX23_typeItem_60 : decode cX23_typeItem 60 = .ok (.aload_n 1, 1) := by decide +kernel
theorem dX23_typeItem_61 : decode cX23_typeItem 61 = .ok (.aload_n 1, 1) := by decide +kernel
theorem dX23_typeItem_62 : decode cX23_typeItem 62 = .ok (.getfield 174, 3) := by decide +kernel
theorem dX23_typeItem_65 : decode cX23_typeItem 65 = .ok (.bipush 10, 2) := by decide +kernel
theorem dX23_typeItem_67 : decode cX23_typeItem 67 = .ok (.if_icmp .ne 11, 3) := by decide +kernel
theorem dX23_typeItem_70 : decode cX23_typeItem 70 = .ok (.bipush 13, 2) := by decide +kernel
theorem dX23_typeItem_72 : decode cX23_typeItem 72 = .ok (.anewarray 164, 3) := by decide +kernel
theorem dX23_typeItem_75 : decode cX23_typeItem 75 = .ok (.goto 4, 3) := by decide +kernel
theorem dX23_typeItem_78 : decode cX23_typeItem 78 = .ok (.aconst_null, 1) := by decide +kernel
theorem dX23_typeItem_79 : decode cX23_typeItem 79 = .ok (.putfield 175, 3) := by decide +kernel
theorem dX23_typeItem_82 : decode cX23_typeItem 82 = .ok (.aload_n 1, 1) := by decide +kernel
theorem dX23_typeItem_83 : decode cX23_typeItem 83 = .ok (.aload_n 1, 1) := by decide +kernel
theorem dX23_typeItem_84 : decode cX23_typeItem 84 = .ok (.getfield 174, 3) := by decide +kernel
theorem dX23_typeItem_87 : decode cX23_typeItem 87 = .ok (.bipush 11, 2) := by decide +kernel
theorem dX23_typeItem_89 : decode cX23_typeItem 89 = .ok (.if_icmp .ne 11, 3) := by decide +kernel
theorem dX23_typeItem_92 : decode cX23_typeItem 92 = .ok (.bipush 13, 2) := by decide +kernel
theorem dX23_typeItem_94 : decode cX23_typeItem 94 = .ok (.anewarray 156, 3) := by decide +kernel
theorem dX23_typeItem_97 : decode cX23_typeItem 97 = .ok (.goto 4, 3) := by decide +kernel
theorem dX23_typeItem_100 : decode cX23_typeItem 100 = .ok (.aconst_null, 1) := by decide +kernel
theorem dX23_typeItem_101 : decode cX23_typeItem 101 = .ok (.putfield 159, 3) := by decide +kernel
theorem dX23_typeItem_104 : decode cX23_typeItem 104 = .ok (.aload_n 1, 1) := by decide +kernel
theorem dX23_typeItem_105 : decode cX23_typeItem 105 = .ok (.aload_n 0, 1) := by decide +kernel
theorem dX23_typeItem_106 : decode cX23_typeItem 106 = .ok (.invokevirtual 150, 3) := by decide +kernel
theorem dX23_typeItem_109 : decode cX23_typeItem 109 = .ok (.putfield 176, 3) := by decide +kernel
theorem dX23_typeItem_112 : decode cX23_typeItem 112 = .ok (.aload_n 0, 1) := by decide +kernel
theorem dX23_typeItem_113 : decode cX23_typeItem 113 = .ok (.bipush 63, 2) := by decide +kernel
theorem dX23_typeItem_115 : decode cX23_typeItem 115 = .ok (.invokevirtual 100, 3) := by decide +kernel
theorem dX23_typeItem_118 : decode cX23_typeItem 118 = .ok (.iconst 1, 1) := by decide +kernel
theorem dX23_typeItem_119 : decode cX23_typeItem 119 = .ok (.istore_n 2, 1) := by decide +kernel
theorem dX23_typeItem_120 : decode cX23_typeItem 120 = .ok (.aload_n 0, 1) := by decide +kernel
theorem dX23_typeItem_121 : decode cX23_typeItem 121 = .ok (.invokevirtual 89, 3) := by decide +kernel
theorem dX23_typeItem_124 : decode cX23_typeItem 124 = .ok (.ifCond .eq 39, 3) := by decide +kernel
theorem dX23_typeItem_127 : decode cX23_typeItem 127 = .ok (.iload_n 2, 1) := by decide +kernel
theorem dX23_typeItem_128 : decode cX23_typeItem 128 = .ok (.ifCond .eq 35, 3) := by decide +kernel
theorem dX23_typeItem_131 : decode cX23_typeItem 131 = .ok (.aload_n 1, 1) := by decide +kernel
theorem dX23_typeItem_132 : decode cX23_typeItem 132 = .ok (.getfield 174, 3) := by decide +kernel
theorem dX23_typeItem_135 : decode cX23_typeItem 135 = .ok (.bipush 10, 2) := by decide +kernel
theorem dX23_typeItem_137 : decode cX23_typeItem 137 = .ok (.if_icmp .ne 11, 3) := by decide +kernel
theorem dX23_typeItem_140 : decode cX23_typeItem 140 = .ok (.aload_n 0, 1) := by decide +kernel
theorem dX23_typeItem_141 : decode cX23_typeItem 141 = .ok (.aload_n 1, 1) := by decide +kernel
theorem dX23_typeItem_142 : decode cX23_typeItem 142 = .ok (.invokevirtual 177, 3) := by decide +kernel
theorem dX23_typeItem_145 : decode cX23_typeItem 145 = .ok (.goto 8, 3) := by decide +kernel
theorem dX23_typeItem_148 : decode cX23_typeItem 148 = .ok (.aload_n 0, 1) := by decide +kernel
theorem dX23_typeItem_149 : decode cX23_typeItem 149 = .ok (.aload_n 1, 1) := by decide +kernel
theorem dX23_typeItem_150 : decode cX23_typeItem 150 = .ok (.invokevirtual 181, 3) := by decide +kernel
theorem dX23_typeItem_153 : decode cX23_typeItem 153 = .ok (.aload_n 0, 1) := by decide +kernel
theorem dX23_typeItem_154 : decode cX23_typeItem 154 = .ok (.bipush 57, 2) := by decide +kernel
theorem dX23_typeItem_156 : decode cX23_typeItem 156 = .ok (.invokevirtual 125, 3) := by decide +kernel
theorem dX23_typeItem_159 : decode cX23_typeItem 159 = .ok (.istore_n 2, 1) := by decide +kernel
theorem dX23_typeItem_160 : decode cX23_typeItem 160 = .ok (.goto (-40), 3) := by decide +kernel
theorem dX23_typeItem_163 : decode cX23_typeItem 163 = .ok (.aload_n 0, 1) := by decide +kernel
theorem dX23_typeItem_164 : decode cX23_typeItem 164 = .ok (.bipush 64, 2) := by decide +kernel
theorem dX23_typeItem_166 : decode cX23_typeItem 166 = .ok (.invokevirtual 100, 3) := by decide +kernel
theorem dX23_typeItem_169 : decode cX23_typeItem 169 = .ok (.return_, 1) := by decide +kernel
theorem dX23_takeLives_0 : decode cX23_takeLives 0 = .ok (.iconst 1, 1) := by decide +kernel
theorem dX23_takeLives_1 : decode cX23_takeLives 1 = .ok (.istore_n 2, 1) := by decide +kernel
theorem dX23_takeLives_2 : decode cX23_takeLives 2 = .ok (.aload_n 0, 1) := by decide +kernel
theorem dX23_takeLives_3 : decode cX23_takeLives 3 = .ok (.invokevirtual 89, 3) := by decide +kernel
theorem dX23_takeLives_6 : decode cX23_takeLives 6 = .ok (.ifCond .eq 80, 3) := by decide +kernel
theorem dX23_takeLives_9 : decode cX23_takeLives 9 = .ok (.iload_n 2, 1) := by decide +kernel
theorem dX23_takeLives_10 : decode cX23_takeLives 10 = .ok (.ifCond .eq 76, 3) := by decide +kernel
theorem dX23_takeLives_13 : decode cX23_takeLives 13 = .ok (.aload_n 0, 1) := by decide +kernel
theorem dX23_takeLives_14 : decode cX23_takeLives 14 = .ok (.iconst 4, 1) := by decide +kernel
theorem dX23_takeLives_15 : decode cX23_takeLives 15 = .ok (.invokevirtual 93, 3) := by decide +kernel
theorem dX23_takeLives_18 : decode cX23_takeLives 18 = .ok (.ifCond .eq 21, 3) := by decide +kernel
theorem dX23_takeLives_21 : decode cX23_takeLives 21 = .ok (.aload_n 1, 1) := by decide +kernel
theorem dX23_takeLives_22 : decode cX23_takeLives 22 = .ok (.getfield 184, 3) := by decide +kernel
theorem dX23_takeLives_25 : decode cX23_takeLives 25 = .ok (.bipush 8, 2) := by decide +kernel
theorem dX23_takeLives_27 : decode cX23_takeLives 27 = .ok (.if_icmp .ne 12, 3) := by decide +kernel
theorem dX23_takeLives_30 : decode cX23_takeLives 30 = .ok (.aload_n 0, 1) := by decide +kernel
theorem dX23_takeLives_31 : decode cX23_takeLives 31 = .ok (.iconst 2, 1) := by decide +kernel
theorem dX23_takeLives_32 : decode cX23_takeLives 32 = .ok (.aload_n 0, 1) := by decide +kernel
theorem dX23_takeLives_33 : decode cX23_takeLives 33 = .ok (.getfield 86, 3) := by decide +kernel
theorem dX23_takeLives_36 : decode cX23_takeLives 36 = .ok (.invokevirtual 96, 3) := by decide +kernel
theorem dX23_takeLives_39 : decode cX23_takeLives 39 = .ok (.aload_n 0, 1) := by decide +kernel
theorem dX23_takeLives_40 : decode cX23_takeLives 40 = .ok (.iconst 4, 1) := by decide +kernel
theorem dX23_takeLives_41 : decode cX23_takeLives 41 = .ok (.invokevirtual 100, 3) := by decide +kernel
theorem dX23_takeLives_44 : decode cX23_takeLives 44 = .ok (.aload_n 0, 1) := by decide +kernel
theorem dX23_takeLives_45 : decode cX23_takeLives 45 = .ok (.invokevirtual 89, 3) := by decide +kernel
theorem dX23_takeLives_48 : decode cX23_takeLives 48 = .ok (.ifCond .eq 18, 3) := by decide +kernel
theorem dX23_takeLives_51 : decode cX23_takeLives 51 = .ok (.aload_n 1, 1) := by decide +kernel
theorem dX23_takeLives_52 : decode cX23_takeLives 52 = .ok (.getfield 187, 3) := by decide +kernel
theorem dX23_takeLives_55 : decode cX23_takeLives 55 = .ok (.aload_n 1, 1) := by decide +kernel
theorem dX23_takeLives_56 : decode cX23_takeLives 56 = .ok (.getfield 184, 3) := by decide +kernel
theorem dX23_takeLives_59 : decode cX23_takeLives 59 = .ok (.aload_n 0, 1) := by decide +kernel
theorem dX23_takeLives_60 : decode cX23_takeLives 60 = .ok (.getfield 86, 3) := by decide +kernel
theorem dX23_takeLives_63 : decode cX23_takeLives 63 = .ok (.iconst 1, 1) := by decide +kernel
theorem dX23_takeLives_64 : decode cX23_takeLives 64 = .ok (.isub, 1) := by decide +kernel
theorem dX23_takeLives_65 : decode cX23_takeLives 65 = .ok (.iastore, 1) := by decide +kernel
theorem dX23_takeLives_66 : decode cX23_takeLives 66 = .ok (.aload_n 1, 1) := by decide +kernel
theorem dX23_takeLives_67 : decode cX23_takeLives 67 = .ok (.dup, 1) := by decide +kernel
theorem dX23_takeLives_68 : decode cX23_takeLives 68 = .ok (.getfield 184, 3) := by decide +kernel
theorem dX23_takeLives_71 : decode cX23_takeLives 71 = .ok (.iconst 1, 1) := by decide +kernel
theorem dX23_takeLives_72 : decode cX23_takeLives 72 = .ok (.iadd, 1) := by decide +kernel
theorem dX23_takeLives_73 : decode cX23_takeLives 73 = .ok (.putfield 184, 3) := by decide +kernel
theorem dX23_takeLives_76 : decode cX23_takeLives 76 = .ok (.aload_n 0, 1) := by decide +kernel
theorem dX23_takeLives_77 : decode cX23_takeLives 77 = .ok (.bipush 57, 2) := by decide +kernel
theorem dX23_takeLives_79 : decode cX23_takeLives 79 = .ok (.invokevirtual 125, 3) := by decide +kernel
theorem dX23_takeLives_82 : decode cX23_takeLives 82 = .ok (.istore_n 2, 1) := by decide +kernel
theorem dX23_takeLives_83 : decode cX23_takeLives 83 = .ok (.goto (-81), 3) := by decide +kernel
theorem dX23_takeLives_86 : decode cX23_takeLives 86 = .ok (.aload_n 0, 1) := by decide +kernel
theorem dX23_takeLives_87 : decode cX23_takeLives 87 = .ok (.bipush 49, 2) := by decide +kernel
theorem dX23_takeLives_89 : decode cX23_takeLives 89 = .ok (.invokevirtual 100, 3) := by decide +kernel
theorem dX23_takeLives_92 : decode cX23_takeLives 92 = .ok (.return_, 1) := by decide +kernel
theorem dX23_function_0 : decode cX23_function 0 = .ok (.aload_n 0, 1) := by decide +kernel
theorem dX23_function_1 : decode cX23_function 1 = .ok (.getfield 189, 3) := by decide +kernel
theorem dX23_function_4 : decode cX23_function 4 = .ok (.bipush 40, 2) := by decide +kernel
theorem dX23_function_6 : decode cX23_function 6 = .ok (.if_icmp .ne 12, 3) := by decide +kernel
theorem dX23_function_9 : decode cX23_function 9 = .ok (.aload_n 0, 1) := by decide +kernel
theorem dX23_function_10 : decode cX23_function 10 = .ok (.iconst 2, 1) := by decide +kernel
theorem dX23_function_11 : decode cX23_function 11 = .ok (.aload_n 0, 1) := by decide +kernel
theorem dX23_function_12 : decode cX23_function 12 = .ok (.getfield 86, 3) := by decide +kernel
theorem dX23_function_15 : decode cX23_function 15 = .ok (.invokevirtual 96, 3) := by decide +kernel
theorem dX23_function_18 : decode cX23_function 18 = .ok (.aload_n 0, 1) := by decide +kernel
theorem dX23_function_19 : decode cX23_function 19 = .ok (.dup, 1) := by decide +kernel
theorem dX23_function_20 : decode cX23_function 20 = .ok (.getfield 189, 3) := by decide +kernel
theorem dX23_function_23 : decode cX23_function 23 = .ok (.iconst 1, 1) := by decide +kernel
theorem dX23_function_24 : decode cX23_function 24 = .ok (.iadd, 1) := by decide +kernel
theorem dX23_function_25 : decode cX23_function 25 = .ok (.putfield 189, 3) := by decide +kernel
theorem dX23_function_28 : decode cX23_function 28 = .ok (.aload_n 0, 1) := by decide +kernel
theorem dX23_function_29 : decode cX23_function 29 = .ok (.dup, 1) := by decide +kernel
theorem dX23_function_30 : decode cX23_function 30 = .ok (.getfield 86, 3) := by decide +kernel
theorem dX23_function_33 : decode cX23_function 33 = .ok (.iconst 1, 1) := by decide +kernel
theorem dX23_function_34 : decode cX23_function 34 = .ok (.iadd, 1) := by decide +kernel
theorem dX23_function_35 : decode cX23_function 35 = .ok (.putfield 86, 3) := by decide +kernel
theorem dX23_function_38 : decode cX23_function 38 = .ok (.aload_n 1, 1) := by decide +kernel
theorem dX23_function_39 : decode cX23_function 39 = .ok (.bipush 13, 2) := by decide +kernel
theorem dX23_function_41 : decode cX23_function 41 = .ok (.anewarray 107, 3) := by decide +kernel
theorem dX23_function_44 : decode cX23_function 44 = .ok (.putfield 153, 3) := by decide +kernel
theorem dX23_function_47 : decode cX23_function 47 = .ok (.aload_n 1, 1) := by decide +kernel
theorem dX23_function_48 : decode cX23_function 48 = .ok (.bipush 13, 2) := by decide +kernel
theorem dX23_function_50 : decode cX23_function 50 = .ok (.anewarray 164, 3) := by decide +kernel
theorem dX23_function_53 : decode cX23_function 53 = .ok (.putfield 175, 3) := by decide +kernel
theorem dX23_function_56 : decode cX23_function 56 = .ok (.aload_n 1, 1) := by decide +kernel
theorem dX23_function_57 : decode cX23_function 57 = .ok (.bipush 13, 2) := by decide +kernel
theorem dX23_function_59 : decode cX23_function 59 = .ok (.anewarray 192, 3) := by decide +kernel
theorem dX23_function_62 : decode cX23_function 62 = .ok (.putfield 194, 3) := by decide +kernel
theorem dX23_function_65 : decode cX23_function 65 = .ok (.aload_n 1, 1) := by decide +kernel
theorem dX23_function_66 : decode cX23_function 66 = .ok (.bipush 8, 2) := by decide +kernel
theorem dX23_function_68 : decode cX23_function 68 = .ok (.newarray .int, 2) := by decide +kernel
theorem dX23_function_70 : decode cX23_function 70 = .ok (.putfield 187, 3) := by decide +kernel
theorem dX23_function_73 : decode cX23_function 73 = .ok (.aload_n 1, 1) := by decide +kernel
theorem dX23_function_74 : decode cX23_function 74 = .ok (.bipush 13, 2) := by decide +kernel
theorem dX23_function_76 : decode cX23_function 76 = .ok (.newarray .int, 2) := by decide +kernel
theorem dX23_function_78 : decode cX23_function 78 = .ok (.putfield 198, 3) := by decide +kernel
theorem dX23_function_81 : decode cX23_function 81 = .ok (.aload_n 1, 1) := by decide +kernel
theorem dX23_function_82 : decode cX23_function 82 = .ok (.aload_n 0, 1) := by decide +kernel
theorem dX23_function_83 : decode cX23_function 83 = .ok (.invokevirtual 150, 3) := by decide +kernel
theorem dX23_function_86 : decode cX23_function 86 = .ok (.putfield 176, 3) := by decide +kernel
theorem dX23_function_89 : decode cX23_function 89 = .ok (.aload_n 0, 1) := by decide +kernel
theorem dX23_function_90 : decode cX23_function 90 = .ok (.bipush 47, 2) := by decide +kernel
theorem dX23_function_92 : decode cX23_function 92 = .ok (.invokevirtual 125, 3) := by decide +kernel
theorem dX23_function_95 : decode cX23_function 95 = .ok (.ifCond .eq 8, 3) := by decide +kernel
theorem dX23_function_98 : decode cX23_function 98 = .ok (.aload_n 0, 1) := by decide +kernel
theorem dX23_function_99 : decode cX23_function 99 = .ok (.aload_n 1, 1) := by decide +kernel
theorem dX23_function_100 : decode cX23_function 100 = .ok (.invokevirtual 201, 3) := by decide +kernel
theorem dX23_function_103 : decode cX23_function 103 = .ok (.aload_n 0, 1) := by decide +kernel
theorem dX23_function_104 : decode cX23_function 104 = .ok (.iconst 0, 1) := by decide +kernel
theorem dX23_function_105 : decode cX23_function 105 = .ok (.putfield 104, 3) := by decide +kernel
theorem dX23_function_108 : decode cX23_function 108 = .ok (.aload_n 0, 1) := by decide +kernel
theorem dX23_function_109 : decode cX23_function 109 = .ok (.iconst 0, 1) := by decide +kernel
theorem dX23_function_110 : decode cX23_function 110 = .ok (.putfield 204, 3) := by decide +kernel
theorem dX23_function_113 : decode cX23_function 113 = .ok (.aload_n 0, 1) := by decide +kernel
theorem dX23_function_114 : decode cX23_function 114 = .ok (.iconst 0, 1) := by decide +kernel
theorem dX23_function_115 : decode cX23_function 115 = .ok (.putfield 207, 3) := by decide +kernel
theorem dX23_function_118 : decode cX23_function 118 = .ok (.aload_n 0, 1) := by decide +kernel
theorem dX23_function_119 : decode cX23_function 119 = .ok (.bipush 61, 2) := by decide +kernel
theorem dX23_function_121 : decode cX23_function 121 = .ok (.invokevirtual 100, 3) := by decide +kernel
theorem dX23_function_124 : decode cX23_function 124 = .ok (.aload_n 0, 1) := by decide +kernel
theorem dX23_function_125 : decode cX23_function 125 = .ok (.bipush 62, 2) := by decide +kernel
theorem dX23_function_127 : decode cX23_function 127 = .ok (.invokevirtual 125, 3) := by decide +kernel
theorem dX23_function_130 : decode cX23_function 130 = .ok (.ifCond .ne 47, 3) := by decide +kernel
theorem dX23_function_133 : decode cX23_function 133 = .ok (.iconst 1, 1) := by decide +kernel
theorem dX23_function_134 : decode cX23_function 134 = .ok (.istore_n 2, 1) := by decide +kernel
theorem dX23_function_135 : decode cX23_function 135 = .ok (.aload_n 0, 1) := by decide +kernel
theorem dX23_function_136 : decode cX23_function 136 = .ok (.invokevirtual 89, 3) := by decide +kernel
theorem dX23_function_139 : decode cX23_function 139 = .ok (.ifCond .eq 32, 3) := by decide +kernel
theorem dX23_function_142 : decode cX23_function 142 = .ok (.iload_n 2, 1) := by decide +kernel
theorem dX23_function_143 : decode cX23_function 143 = .ok (.ifCond .eq 28, 3) := by decide +kernel
theorem dX23_function_146 : decode cX23_function 146 = .ok (.aload_n 0, 1) := by decide +kernel
theorem dX23_function_147 : decode cX23_function 147 = .ok (.aload_n 1, 1) := by decide +kernel
theorem dX23_function_148 : decode cX23_function 148 = .ok (.invokevirtual 177, 3) := by decide +kernel
theorem dX23_function_151 : decode cX23_function 151 = .ok (.aload_n 0, 1) := by decide +kernel
theorem dX23_function_152 : decode cX23_function 152 = .ok (.dup, 1) := by decide +kernel
theorem dX23_function_153 : decode cX23_function 153 = .ok (.getfield 204, 3) := by decide +kernel
theorem dX23_function_156 : decode cX23_function 156 = .ok (.iconst 1, 1) := by decide +kernel
theorem dX23_function_157 : decode cX23_function 157 = .ok (.iadd, 1) := by decide +kernel
theorem dX23_function_158 : decode cX23_function 158 = .ok (.putfield 204, 3) := by decide +kernel
theorem dX23_function_161 : decode cX23_function 161 = .ok (.aload_n 0, 1) := by decide +kernel
theorem dX23_function_162 : decode cX23_function 162 = .ok (.bipush 57, 2) := by decide +kernel
theorem dX23_function_164 : decode cX23_function 164 = .ok (.invokevirtual 125, 3) := by decide +kernel
theorem dX23_function_167 : decode cX23_function 167 = .ok (.istore_n 2, 1) := by decide +kernel
theorem dX23_function_168 : decode cX23_function 168 = .ok (.goto (-33), 3) := by decide +kernel
theorem dX23_function_171 : decode cX23_function 171 = .ok (.aload_n 0, 1) := by decide +kernel
theorem dX23_function_172 : decode cX23_function 172 = .ok (.bipush 62, 2) := by decide +kernel
theorem dX23_function_174 : decode cX23_function 174 = .ok (.invokevirtual 100, 3) := by decide +kernel
theorem dX23_function_177 : decode cX23_function 177 = .ok (.aload_n 0, 1) := by decide +kernel
theorem dX23_function_178 : decode cX23_function 178 = .ok (.bipush 65, 2) := by decide +kernel
theorem dX23_function_180 : decode cX23_function 180 = .ok (.invokevirtual 125, 3) := by decide +kernel
theorem dX23_function_183 : decode cX23_function 183 = .ok (.ifCond .eq 11, 3) := by decide +kernel
theorem dX23_function_186 : decode cX23_function 186 = .ok (.aload_n 1, 1) := by decide +kernel
theorem dX23_function_187 : decode cX23_function 187 = .ok (.aload_n 0, 1) := by decide +kernel
theorem dX23_function_188 : decode cX23_function 188 = .ok (.invokevirtual 131, 3) := by decide +kernel
theorem dX23_function_191 : decode cX23_function 191 = .ok (.putfield 210, 3) := by decide +kernel
theorem dX23_function_194 : decode cX23_function 194 = .ok (.aload_n 1, 1) := by decide +kernel
theorem dX23_function_195 : decode cX23_function 195 = .ok (.aload_n 0, 1) := by decide +kernel
theorem dX23_function_196 : decode cX23_function 196 = .ok (.invokevirtual 213, 3) := by decide +kernel
theorem dX23_function_199 : decode cX23_function 199 = .ok (.putfield 217, 3) := by decide +kernel
theorem dX23_function_202 : decode cX23_function 202 = .ok (.aload_n 1, 1) := by decide +kernel
theorem dX23_function_203 : decode cX23_function 203 = .ok (.aload_n 0, 1) := by decide +kernel
theorem dX23_function_204 : decode cX23_function 204 = .ok (.getfield 204, 3) := by decide +kernel
theorem dX23_function_207 : decode cX23_function 207 = .ok (.putfield 220, 3) := by decide +kernel
theorem dX23_function_210 : decode cX23_function 210 = .ok (.return_, 1) := by decide +kernel
theorem dX23_program_0 : decode cX23_program 0 = .ok (.aload_n 0, 1) := by decide +kernel
theorem dX23_program_1 : decode cX23_program 1 = .ok (.iconst 0, 1) := by decide +kernel
theorem dX23_program_2 : decode cX23_program 2 = .ok (.putfield 221, 3) := by decide +kernel
theorem dX23_program_5 : decode cX23_program 5 = .ok (.aload_n 0, 1) := by decide +kernel
theorem dX23_program_6 : decode cX23_program 6 = .ok (.iconst 0, 1) := by decide +kernel
theorem dX23_program_7 : decode cX23_program 7 = .ok (.putfield 171, 3) := by decide +kernel
theorem dX23_program_10 : decode cX23_program 10 = .ok (.aload_n 0, 1) := by decide +kernel
theorem dX23_program_11 : decode cX23_program 11 = .ok (.iconst 0, 1) := by decide +kernel
theorem dX23_program_12 : decode cX23_program 12 = .ok (.putfield 189, 3) := by decide +kernel
theorem dX23_program_15 : decode cX23_program 15 = .ok (.aload_n 0, 1) := by decide +kernel
theorem dX23_program_16 : decode cX23_program 16 = .ok (.iconst 0, 1) := by decide +kernel
theorem dX23_program_17 : decode cX23_program 17 = .ok (.putfield 86, 3) := by decide +kernel
theorem dX23_program_20 : decode cX23_program 20 = .ok (.aload_n 0, 1) := by decide +kernel
theorem dX23_program_21 : decode cX23_program 21 = .ok (.iconst 0, 1) := by decide +kernel
theorem dX23_program_22 : decode cX23_program 22 = .ok (.putfield 104, 3) := by decide +kernel
theorem dX23_program_25 : decode cX23_program 25 = .ok (.aload_n 0, 1) := by decide +kernel
theorem dX23_program_26 : decode cX23_program 26 = .ok (.invokevirtual 89, 3) := by decide +kernel
theorem dX23_program_29 : decode cX23_program 29 = .ok (.ifCond .eq 130, 3) := by decide +kernel
theorem dX23_program_32 : decode cX23_program 32 = .ok (.aload_n 0, 1) := by decide +kernel
theorem dX23_program_33 : decode cX23_program 33 = .ok (.iconst 0, 1) := by decide +kernel
theorem dX23_program_34 : decode cX23_program 34 = .ok (.invokevirtual 93, 3) := by decide +kernel
theorem dX23_program_37 : decode cX23_program 37 = .ok (.ifCond .ne 122, 3) := by decide +kernel
theorem dX23_program_40 : decode cX23_program 40 = .ok (.aload_n 0, 1) := by decide +kernel
theorem dX23_program_41 : decode cX23_program 41 = .ok (.bipush 10, 2) := by decide +kernel
theorem dX23_program_43 : decode cX23_program 43 = .ok (.invokevirtual 93, 3) := by decide +kernel
theorem dX23_program_46 : decode cX23_program 46 = .ok (.ifCond .ne 31, 3) := by decide +kernel
theorem dX23_program_49 : decode cX23_program 49 = .ok (.aload_n 0, 1) := by decide +kernel
theorem dX23_program_50 : decode cX23_program 50 = .ok (.bipush 11, 2) := by decide +kernel
theorem dX23_program_52 : decode cX23_program 52 = .ok (.invokevirtual 93, 3) := by decide +kernel
theorem dX23_program_55 : decode cX23_program 55 = .ok (.ifCond .ne 22, 3) := by decide +kernel
theorem dX23_program_58 : decode cX23_program 58 = .ok (.aload_n 0, 1) := by decide +kernel
theorem dX23_program_59 : decode cX23_program 59 = .ok (.bipush 12, 2) := by decide +kernel
theorem dX23_program_61 : decode cX23_program 61 = .ok (.invokevirtual 93, 3) := by decide +kernel
theorem dX23_program_64 : decode cX23_program 64 = .ok (.ifCond .ne 13, 3) := by decide +kernel
theorem dX23_program_67 : decode cX23_program 67 = .ok (.aload_n 0, 1) := by decide +kernel
theorem dX23_program_68 : decode cX23_program 68 = .ok (.iconst 1, 1) := by decide +kernel
theorem dX23_program_69 : decode cX23_program 69 = .ok (.aload_n 0, 1) := by decide +kernel
theorem dX23_program_70 : decode cX23_program 70 = .ok (.getfield 86, 3) := by decide +kernel
theorem dX23_program_73 : decode cX23_program 73 = .ok (.invokevirtual 96, 3) := by decide +kernel
theorem dX23_program_76 : decode cX23_program 76 = .ok (.return_, 1) := by decide +kernel
theorem dX23_program_77 : decode cX23_program 77 = .ok (.new 140, 3) := by decide +kernel
theorem dX23_program_80 : decode cX23_program 80 = .ok (.dup, 1) := by decide +kernel
theorem dX23_program_81 : decode cX23_program 81 = .ok (.invokespecial 224, 3) := by decide +kernel
theorem dX23_program_84 : decode cX23_program 84 = .ok (.astore_n 1, 1) := by decide +kernel
theorem dX23_program_85 : decode cX23_program 85 = .ok (.aload_n 1, 1) := by decide +kernel
theorem dX23_program_86 : decode cX23_program 86 = .ok (.aload_n 0, 1) := by decide +kernel
theorem dX23_program_87 : decode cX23_program 87 = .ok (.getfield 86, 3) := by decide +kernel
theorem dX23_program_90 : decode cX23_program 90 = .ok (.putfield 225, 3) := by decide +kernel
theorem dX23_program_93 : decode cX23_program 93 = .ok (.aload_n 1, 1) := by decide +kernel
theorem dX23_program_94 : decode cX23_program 94 = .ok (.aload_n 0, 1) := by decide +kernel
theorem dX23_program_95 : decode cX23_program 95 = .ok (.getfield 25, 3) := by decide +kernel
theorem dX23_program_98 : decode cX23_program 98 = .ok (.aload_n 0, 1) := by decide +kernel
theorem dX23_program_99 : decode cX23_program 99 = .ok (.getfield 86, 3) := by decide +kernel
theorem dX23_program_102 : decode cX23_program 102 = .ok (.iaload, 1) := by decide +kernel
theorem dX23_program_103 : decode cX23_program 103 = .ok (.putfield 174, 3) := by decide +kernel
theorem dX23_program_106 : decode cX23_program 106 = .ok (.aload_n 1, 1) := by decide +kernel
theorem dX23_program_107 : decode cX23_program 107 = .ok (.getfield 174, 3) := by decide +kernel
theorem dX23_program_110 : decode cX23_program 110 = .ok (.bipush 12, 2) := by decide +kernel
theorem dX23_program_112 : decode cX23_program 112 = .ok (.if_icmp .ne 11, 3) := by decide +kernel
theorem dX23_program_115 : decode cX23_program 115 = .ok (.aload_n 0, 1) := by decide +kernel
theorem dX23_program_116 : decode cX23_program 116 = .ok (.aload_n 1, 1) := by decide +kernel
theorem dX23_program_117 : decode cX23_program 117 = .ok (.invokevirtual 226, 3) := by decide +kernel
theorem dX23_program_120 : decode cX23_program 120 = .ok (.goto 8, 3) := by decide +kernel
theorem dX23_program_123 : decode cX23_program 123 = .ok (.aload_n 0, 1) := by decide +kernel
theorem dX23_program_124 : decode cX23_program 124 = .ok (.aload_n 1, 1) := by decide +kernel
theorem dX23_program_125 : decode cX23_program 125 = .ok (.invokevirtual 229, 3) := by decide +kernel
theorem dX23_program_128 : decode cX23_program 128 = .ok (.aload_n 0, 1) := by decide +kernel
theorem dX23_program_129 : decode cX23_program 129 = .ok (.invokevirtual 89, 3) := by decide +kernel
theorem dX23_program_132 : decode cX23_program 132 = .ok (.ifCond .ne 4, 3) := by decide +kernel
theorem dX23_program_135 : decode cX23_program 135 = .ok (.return_, 1) := by decide +kernel
theorem dX23_program_136 : decode cX23_program 136 = .ok (.aload_n 0, 1) := by decide +kernel
theorem dX23_program_137 : decode cX23_program 137 = .ok (.getfield 232, 3) := by decide +kernel
theorem dX23_program_140 : decode cX23_program 140 = .ok (.aload_n 0, 1) := by decide +kernel
theorem dX23_program_141 : decode cX23_program 141 = .ok (.getfield 221, 3) := by decide +kernel
theorem dX23_program_144 : decode cX23_program 144 = .ok (.aload_n 1, 1) := by decide +kernel
theorem dX23_program_145 : decode cX23_program 145 = .ok (.aastore, 1) := by decide +kernel
theorem dX23_program_146 : decode cX23_program 146 = .ok (.aload_n 0, 1) := by decide +kernel
theorem dX23_program_147 : decode cX23_program 147 = .ok (.dup, 1) := by decide +kernel
theorem dX23_program_148 : decode cX23_program 148 = .ok (.getfield 221, 3) := by decide +kernel
theorem dX23_program_151 : decode cX23_program 151 = .ok (.iconst 1, 1) := by decide +kernel
theorem dX23_program_152 : decode cX23_program 152 = .ok (.iadd, 1) := by decide +kernel
theorem dX23_program_153 : decode cX23_program 153 = .ok (.putfield 221, 3) := by decide +kernel
theorem dX23_program_156 : decode cX23_program 156 = .ok (.goto (-131), 3) := by decide +kernel
theorem dX23_program_159 : decode cX23_program 159 = .ok (.return_, 1) := by decide +kernel
