theorem dX6_clear_0 : decode cX6_clear 0 = .ok (.aload_n 0, 1) := by decide +kernel
theorem dX6_clear_1 : decode cX6_clear 1 = .ok (.getfield 37, 3) := by decide +kernel
theorem dX6_clear_4 : decode cX6_clear 4 = .ok (.iconst 0, 1) := by decide +kernel
theorem dX6_clear_5 : decode cX6_clear 5 = .ok (.invokestatic 41, 3) := by decide +kernel
theorem dX6_clear_8 : decode cX6_clear 8 = .ok (.aload_n 0, 1) := by decide +kernel
theorem dX6_clear_9 : decode cX6_clear 9 = .ok (.iconst 0, 1) := by decide +kernel
theorem dX6_clear_10 : decode cX6_clear 10 = .ok (.putfield 47, 3) := by decide +kernel
theorem dX6_clear_13 : decode cX6_clear 13 = .ok (.aload_n 0, 1) := by decide +kernel
theorem dX6_clear_14 : decode cX6_clear 14 = .ok (.iconst 0, 1) := by decide +kernel
theorem dX6_clear_15 : decode cX6_clear 15 = .ok (.putfield 50, 3) := by decide +kernel
theorem dX6_clear_18 : decode cX6_clear 18 = .ok (.aload_n 0, 1) := by decide +kernel
theorem dX6_clear_19 : decode cX6_clear 19 = .ok (.iconst 0, 1) := by decide +kernel
theorem dX6_clear_20 : decode cX6_clear 20 = .ok (.putfield 53, 3) := by decide +kernel
theorem dX6_clear_23 : decode cX6_clear 23 = .ok (.return_, 1) := by decide +kernel
theorem dX6_drop_0 : decode cX6_drop 0 = .ok (.aload_n 0, 1) := by decide +kernel
theorem dX6_drop_1 : decode cX6_drop 1 = .ok (.iconst 0, 1) := by decide +kernel
theorem dX6_drop_2 : decode cX6_drop 2 = .ok (.putfield 72, 3) := by decide +kernel
theorem dX6_drop_5 : decode cX6_drop 5 = .ok (.aload_n 0, 1) := by decide +kernel
theorem dX6_drop_6 : decode cX6_drop 6 = .ok (.iload_n 1, 1) := by decide +kernel
theorem dX6_drop_7 : decode cX6_drop 7 = .ok (.iload_n 2, 1) := by decide +kernel
theorem dX6_drop_8 : decode cX6_drop 8 = .ok (.iload_n 3, 1) := by decide +kernel
theorem dX6_drop_9 : decode cX6_drop 9 = .ok (.invokevirtual 75, 3) := by decide +kernel
theorem dX6_drop_12 : decode cX6_drop 12 = .ok (.iconst 0, 1) := by decide +kernel
theorem dX6_drop_13 : decode cX6_drop 13 = .ok (.istore 4, 2) := by decide +kernel
theorem dX6_drop_15 : decode cX6_drop 15 = .ok (.iload 4, 2) := by decide +kernel
theorem dX6_drop_17 : decode cX6_drop 17 = .ok (.ldc 79, 2) := by decide +kernel
theorem dX6_drop_19 : decode cX6_drop 19 = .ok (.if_icmp .ge 246, 3) := by decide +kernel
theorem dX6_drop_22 : decode cX6_drop 22 = .ok (.aload_n 0, 1) := by decide +kernel
theorem dX6_drop_23 : decode cX6_drop 23 = .ok (.getfield 72, 3) := by decide +kernel
theorem dX6_drop_26 : decode cX6_drop 26 = .ok (.ifCond .le 239, 3) := by decide +kernel
theorem dX6_drop_29 : decode cX6_drop 29 = .ok (.aload_n 0, 1) := by decide +kernel
theorem dX6_drop_30 : decode cX6_drop 30 = .ok (.dup, 1) := by decide +kernel
theorem dX6_drop_31 : decode cX6_drop 31 = .ok (.getfield 72, 3) := by decide +kernel
theorem dX6_drop_34 : decode cX6_drop 34 = .ok (.iconst 1, 1) := by decide +kernel
theorem dX6_drop_35 : decode cX6_drop 35 = .ok (.isub, 1) := by decide +kernel
theorem dX6_drop_36 : decode cX6_drop 36 = .ok (.putfield 72, 3) := by decide +kernel
theorem dX6_drop_39 : decode cX6_drop 39 = .ok (.aload_n 0, 1) := by decide +kernel
theorem dX6_drop_40 : decode cX6_drop 40 = .ok (.getfield 9, 3) := by decide +kernel
theorem dX6_drop_43 : decode cX6_drop 43 = .ok (.aload_n 0, 1) := by decide +kernel
theorem dX6_drop_44 : decode cX6_drop 44 = .ok (.getfield 72, 3) := by decide +kernel
theorem dX6_drop_47 : decode cX6_drop 47 = .ok (.iaload, 1) := by decide +kernel
theorem dX6_drop_48 : decode cX6_drop 48 = .ok (.istore 5, 2) := by decide +kernel
theorem dX6_drop_50 : decode cX6_drop 50 = .ok (.aload_n 0, 1) := by decide +kernel
theorem dX6_drop_51 : decode cX6_drop 51 = .ok (.getfield 15, 3) := by decide +kernel
theorem dX6_drop_54 : decode cX6_drop 54 = .ok (.aload_n 0, 1) := by decide +kernel
theorem dX6_drop_55 : decode cX6_drop 55 = .ok (.getfield 72, 3) := by decide +kernel
theorem dX6_drop_58 : decode cX6_drop 58 = .ok (.iaload, 1) := by decide +kernel
theorem dX6_drop_59 : decode cX6_drop 59 = .ok (.istore 6, 2) := by decide +kernel
theorem dX6_drop_61 : decode cX6_drop 61 = .ok (.aload_n 0, 1) := by decide +kernel
theorem dX6_drop_62 : decode cX6_drop 62 = .ok (.getfield 21, 3) := by decide +kernel
theorem dX6_drop_65 : decode cX6_drop 65 = .ok (.getfield 80, 3) := by decide +kernel
theorem dX6_drop_68 : decode cX6_drop 68 = .ok (.iload 5, 2) := by decide +kernel
theorem dX6_drop_70 : decode cX6_drop 70 = .ok (.iaload, 1) := by decide +kernel
theorem dX6_drop_71 : decode cX6_drop 71 = .ok (.istore 7, 2) := by decide +kernel
theorem dX6_drop_73 : decode cX6_drop 73 = .ok (.iload 7, 2) := by decide +kernel
theorem dX6_drop_75 : decode cX6_drop 75 = .ok (.iconst 2, 1) := by decide +kernel
theorem dX6_drop_76 : decode cX6_drop 76 = .ok (.if_icmp .ne 33, 3) := by decide +kernel
theorem dX6_drop_79 : decode cX6_drop 79 = .ok (.aload_n 0, 1) := by decide +kernel
theorem dX6_drop_80 : decode cX6_drop 80 = .ok (.aload_n 0, 1) := by decide +kernel
theorem dX6_drop_81 : decode cX6_drop 81 = .ok (.getfield 21, 3) := by decide +kernel
theorem dX6_drop_84 : decode cX6_drop 84 = .ok (.iload 5, 2) := by decide +kernel
theorem dX6_drop_86 : decode cX6_drop 86 = .ok (.iconst 4, 1) := by decide +kernel
theorem dX6_drop_87 : decode cX6_drop 87 = .ok (.isub, 1) := by decide +kernel
theorem dX6_drop_88 : decode cX6_drop 88 = .ok (.iconst 0, 1) := by decide +kernel
theorem dX6_drop_89 : decode cX6_drop 89 = .ok (.invokevirtual 85, 3) := by decide +kernel
theorem dX6_drop_92 : decode cX6_drop 92 = .ok (.iload 6, 2) := by decide +kernel
theorem dX6_drop_94 : decode cX6_drop 94 = .ok (.aload_n 0, 1) := by decide +kernel
theorem dX6_drop_95 : decode cX6_drop 95 = .ok (.getfield 18, 3) := by decide +kernel
theorem dX6_drop_98 : decode cX6_drop 98 = .ok (.aload_n 0, 1) := by decide +kernel
theorem dX6_drop_99 : decode cX6_drop 99 = .ok (.getfield 72, 3) := by decide +kernel
theorem dX6_drop_102 : decode cX6_drop 102 = .ok (.iaload, 1) := by decide +kernel
theorem dX6_drop_103 : decode cX6_drop 103 = .ok (.invokevirtual 88, 3) := by decide +kernel
theorem dX6_drop_106 : decode cX6_drop 106 = .ok (.goto 153, 3) := by decide +kernel
theorem dX6_drop_109 : decode cX6_drop 109 = .ok (.aload_n 0, 1) := by decide +kernel
theorem dX6_drop_110 : decode cX6_drop 110 = .ok (.getfield 18, 3) := by decide +kernel
theorem dX6_drop_113 : decode cX6_drop 113 = .ok (.aload_n 0, 1) := by decide +kernel
theorem dX6_drop_114 : decode cX6_drop 114 = .ok (.getfield 72, 3) := by decide +kernel
theorem dX6_drop_117 : decode cX6_drop 117 = .ok (.iaload, 1) := by decide +kernel
theorem dX6_drop_118 : decode cX6_drop 118 = .ok (.iconst 1, 1) := by decide +kernel
theorem dX6_drop_119 : decode cX6_drop 119 = .ok (.iand, 1) := by decide +kernel
theorem dX6_drop_120 : decode cX6_drop 120 = .ok (.ifCond .ne 6, 3) := by decide +kernel
theorem dX6_drop_123 : decode cX6_drop 123 = .ok (.goto 136, 3) := by decide +kernel
theorem dX6_drop_126 : decode cX6_drop 126 = .ok (.iload 7, 2) := by decide +kernel
theorem dX6_drop_128 : decode cX6_drop 128 = .ok (.iconst 3, 1) := by decide +kernel
theorem dX6_drop_129 : decode cX6_drop 129 = .ok (.if_icmp .ne 33, 3) := by decide +kernel
theorem dX6_drop_132 : decode cX6_drop 132 = .ok (.aload_n 0, 1) := by decide +kernel
theorem dX6_drop_133 : decode cX6_drop 133 = .ok (.aload_n 0, 1) := by decide +kernel
theorem dX6_drop_134 : decode cX6_drop 134 = .ok (.getfield 21, 3) := by decide +kernel
theorem dX6_drop_137 : decode cX6_drop 137 = .ok (.iload 5, 2) := by decide +kernel
theorem dX6_drop_139 : decode cX6_drop 139 = .ok (.iconst 4, 1) := by decide +kernel
theorem dX6_drop_140 : decode cX6_drop 140 = .ok (.isub, 1) := by decide +kernel
theorem dX6_drop_141 : decode cX6_drop 141 = .ok (.aload_n 0, 1) := by decide +kernel
theorem dX6_drop_142 : decode cX6_drop 142 = .ok (.getfield 33, 3) := by decide +kernel
theorem dX6_drop_145 : decode cX6_drop 145 = .ok (.iload 6, 2) := by decide +kernel
theorem dX6_drop_147 : decode cX6_drop 147 = .ok (.laload, 1) := by decide +kernel
theorem dX6_drop_148 : decode cX6_drop 148 = .ok (.l2i, 1) := by decide +kernel
theorem dX6_drop_149 : decode cX6_drop 149 = .ok (.invokevirtual 85, 3) := by decide +kernel
theorem dX6_drop_152 : decode cX6_drop 152 = .ok (.iload 6, 2) := by decide +kernel
theorem dX6_drop_154 : decode cX6_drop 154 = .ok (.ldc 91, 2) := by decide +kernel
theorem dX6_drop_156 : decode cX6_drop 156 = .ok (.invokevirtual 88, 3) := by decide +kernel
theorem dX6_drop_159 : decode cX6_drop 159 = .ok (.goto 100, 3) := by decide +kernel
theorem dX6_drop_162 : decode cX6_drop 162 = .ok (.iload 7, 2) := by decide +kernel
theorem dX6_drop_164 : decode cX6_drop 164 = .ok (.iconst 1, 1) := by decide +kernel
theorem dX6_drop_165 : decode cX6_drop 165 = .ok (.if_icmp .ne 42, 3) := by decide +kernel
theorem dX6_drop_168 : decode cX6_drop 168 = .ok (.aload_n 0, 1) := by decide +kernel
theorem dX6_drop_169 : decode cX6_drop 169 = .ok (.getfield 25, 3) := by decide +kernel
theorem dX6_drop_172 : decode cX6_drop 172 = .ok (.ldc2_w 92, 3) := by decide +kernel
theorem dX6_drop_175 : decode cX6_drop 175 = .ok (.invokevirtual 94, 3) := by decide +kernel
theorem dX6_drop_178 : decode cX6_drop 178 = .ok (.pop, 1) := by decide +kernel
theorem dX6_drop_179 : decode cX6_drop 179 = .ok (.aload_n 0, 1) := by decide +kernel
theorem dX6_drop_180 : decode cX6_drop 180 = .ok (.getfield 25, 3) := by decide +kernel
theorem dX6_drop_183 : decode cX6_drop 183 = .ok (.aload_n 0, 1) := by decide +kernel
theorem dX6_drop_184 : decode cX6_drop 184 = .ok (.getfield 33, 3) := by decide +kernel
theorem dX6_drop_187 : decode cX6_drop 187 = .ok (.iload 6, 2) := by decide +kernel
theorem dX6_drop_189 : decode cX6_drop 189 = .ok (.laload, 1) := by decide +kernel
theorem dX6_drop_190 : decode cX6_drop 190 = .ok (.invokevirtual 100, 3) := by decide +kernel
theorem dX6_drop_193 : decode cX6_drop 193 = .ok (.aload_n 0, 1) := by decide +kernel
theorem dX6_drop_194 : decode cX6_drop 194 = .ok (.getfield 25, 3) := by decide +kernel
theorem dX6_drop_197 : decode cX6_drop 197 = .ok (.ldc2_w 104, 3) := by decide +kernel
theorem dX6_drop_200 : decode cX6_drop 200 = .ok (.invokevirtual 94, 3) := by decide +kernel
theorem dX6_drop_203 : decode cX6_drop 203 = .ok (.pop, 1) := by decide +kernel
theorem dX6_drop_204 : decode cX6_drop 204 = .ok (.goto 55, 3) := by decide +kernel
theorem dX6_drop_207 : decode cX6_drop 207 = .ok (.aload_n 0, 1) := by decide +kernel
theorem dX6_drop_208 : decode cX6_drop 208 = .ok (.getfield 33, 3) := by decide +kernel
theorem dX6_drop_211 : decode cX6_drop 211 = .ok (.iload 6, 2) := by decide +kernel
theorem dX6_drop_213 : decode cX6_drop 213 = .ok (.laload, 1) := by decide +kernel
theorem dX6_drop_214 : decode cX6_drop 214 = .ok (.l2i, 1) := by decide +kernel
theorem dX6_drop_215 : decode cX6_drop 215 = .ok (.istore 8, 2) := by decide +kernel
theorem dX6_drop_217 : decode cX6_drop 217 = .ok (.aload_n 0, 1) := by decide +kernel
theorem dX6_drop_218 : decode cX6_drop 218 = .ok (.iload 8, 2) := by decide +kernel
theorem dX6_drop_220 : decode cX6_drop 220 = .ok (.aload_n 0, 1) := by decide +kernel
theorem dX6_drop_221 : decode cX6_drop 221 = .ok (.getfield 21, 3) := by decide +kernel
theorem dX6_drop_224 : decode cX6_drop 224 = .ok (.getfield 106, 3) := by decide +kernel
theorem dX6_drop_227 : decode cX6_drop 227 = .ok (.aload_n 0, 1) := by decide +kernel
theorem dX6_drop_228 : decode cX6_drop 228 = .ok (.getfield 21, 3) := by decide +kernel
theorem dX6_drop_231 : decode cX6_drop 231 = .ok (.getfield 109, 3) := by decide +kernel
theorem dX6_drop_234 : decode cX6_drop 234 = .ok (.iload 5, 2) := by decide +kernel
theorem dX6_drop_236 : decode cX6_drop 236 = .ok (.iaload, 1) := by decide +kernel
theorem dX6_drop_237 : decode cX6_drop 237 = .ok (.iaload, 1) := by decide +kernel
theorem dX6_drop_238 : decode cX6_drop 238 = .ok (.invokevirtual 112, 3) := by decide +kernel
theorem dX6_drop_241 : decode cX6_drop 241 = .ok (.aload_n 0, 1) := by decide +kernel
theorem dX6_drop_242 : decode cX6_drop 242 = .ok (.aload_n 0, 1) := by decide +kernel
theorem dX6_drop_243 : decode cX6_drop 243 = .ok (.getfield 21, 3) := by decide +kernel
theorem dX6_drop_246 : decode cX6_drop 246 = .ok (.getfield 109, 3) := by decide +kernel
theorem dX6_drop_249 : decode cX6_drop 249 = .ok (.iload 5, 2) := by decide +kernel
theorem dX6_drop_251 : decode cX6_drop 251 = .ok (.iaload, 1) := by decide +kernel
theorem dX6_drop_252 : decode cX6_drop 252 = .ok (.iload 8, 2) := by decide +kernel
theorem dX6_drop_254 : decode cX6_drop 254 = .ok (.ldc 91, 2) := by decide +kernel
theorem dX6_drop_256 : decode cX6_drop 256 = .ok (.invokevirtual 75, 3) := by decide +kernel
theorem dX6_drop_259 : decode cX6_drop 259 = .ok (.iinc 4 1, 3) := by decide +kernel
theorem dX6_drop_262 : decode cX6_drop 262 = .ok (.goto (-247), 3) := by decide +kernel
theorem dX6_drop_265 : decode cX6_drop 265 = .ok (.return_, 1) := by decide +kernel
theorem dX6_dropParts_0 : decode cX6_dropParts 0 = .ok (.aload_n 0, 1) := by decide +kernel
theorem dX6_dropParts_1 : decode cX6_dropParts 1 = .ok (.getfield 21, 3) := by decide +kernel
theorem dX6_dropParts_4 : decode cX6_dropParts 4 = .ok (.getfield 120, 3) := by decide +kernel
theorem dX6_dropParts_7 : decode cX6_dropParts 7 = .ok (.iload_n 1, 1) := by decide +kernel
theorem dX6_dropParts_8 : decode cX6_dropParts 8 = .ok (.iaload, 1) := by decide +kernel
theorem dX6_dropParts_9 : decode cX6_dropParts 9 = .ok (.iconst 1, 1) := by decide +kernel
theorem dX6_dropParts_10 : decode cX6_dropParts 10 = .ok (.isub, 1) := by decide +kernel
theorem dX6_dropParts_11 : decode cX6_dropParts 11 = .ok (.istore 4, 2) := by decide +kernel
theorem dX6_dropParts_13 : decode cX6_dropParts 13 = .ok (.iload 4, 2) := by decide +kernel
theorem dX6_dropParts_15 : decode cX6_dropParts 15 = .ok (.ifCond .lt 52, 3) := by decide +kernel
theorem dX6_dropParts_18 : decode cX6_dropParts 18 = .ok (.iload_n 1, 1) := by decide +kernel
theorem dX6_dropParts_19 : decode cX6_dropParts 19 = .ok (.bipush 12, 2) := by decide +kernel
theorem dX6_dropParts_21 : decode cX6_dropParts 21 = .ok (.imul, 1) := by decide +kernel
theorem dX6_dropParts_22 : decode cX6_dropParts 22 = .ok (.iload 4, 2) := by decide +kernel
theorem dX6_dropParts_24 : decode cX6_dropParts 24 = .ok (.iadd, 1) := by decide +kernel
theorem dX6_dropParts_25 : decode cX6_dropParts 25 = .ok (.istore 5, 2) := by decide +kernel
theorem dX6_dropParts_27 : decode cX6_dropParts 27 = .ok (.aload_n 0, 1) := by decide +kernel
theorem dX6_dropParts_28 : decode cX6_dropParts 28 = .ok (.getfield 21, 3) := by decide +kernel
theorem dX6_dropParts_31 : decode cX6_dropParts 31 = .ok (.getfield 123, 3) := by decide +kernel
theorem dX6_dropParts_34 : decode cX6_dropParts 34 = .ok (.iload 5, 2) := by decide +kernel
theorem dX6_dropParts_36 : decode cX6_dropParts 36 = .ok (.iaload, 1) := by decide +kernel
theorem dX6_dropParts_37 : decode cX6_dropParts 37 = .ok (.istore 6, 2) := by decide +kernel
theorem dX6_dropParts_39 : decode cX6_dropParts 39 = .ok (.aload_n 0, 1) := by decide +kernel
theorem dX6_dropParts_40 : decode cX6_dropParts 40 = .ok (.aload_n 0, 1) := by decide +kernel
theorem dX6_dropParts_41 : decode cX6_dropParts 41 = .ok (.getfield 21, 3) := by decide +kernel
theorem dX6_dropParts_44 : decode cX6_dropParts 44 = .ok (.getfield 126, 3) := by decide +kernel
theorem dX6_dropParts_47 : decode cX6_dropParts 47 = .ok (.iload 5, 2) := by decide +kernel
theorem dX6_dropParts_49 : decode cX6_dropParts 49 = .ok (.iaload, 1) := by decide +kernel
theorem dX6_dropParts_50 : decode cX6_dropParts 50 = .ok (.iload_n 2, 1) := by decide +kernel
theorem dX6_dropParts_51 : decode cX6_dropParts 51 = .ok (.iload 6, 2) := by decide +kernel
theorem dX6_dropParts_53 : decode cX6_dropParts 53 = .ok (.iadd, 1) := by decide +kernel
theorem dX6_dropParts_54 : decode cX6_dropParts 54 = .ok (.iload_n 3, 1) := by decide +kernel
theorem dX6_dropParts_55 : decode cX6_dropParts 55 = .ok (.iload 6, 2) := by decide +kernel
theorem dX6_dropParts_57 : decode cX6_dropParts 57 = .ok (.ishr, 1) := by decide +kernel
theorem dX6_dropParts_58 : decode cX6_dropParts 58 = .ok (.invokevirtual 75, 3) := by decide +kernel
theorem dX6_dropParts_61 : decode cX6_dropParts 61 = .ok (.iinc 4 (-1), 3) := by decide +kernel
theorem dX6_dropParts_64 : decode cX6_dropParts 64 = .ok (.goto (-51), 3) := by decide +kernel
theorem dX6_dropParts_67 : decode cX6_dropParts 67 = .ok (.return_, 1) := by decide +kernel
theorem dX6_freeBlock_0 : decode cX6_freeBlock 0 = .ok (.aload_n 0, 1) := by decide +kernel
theorem dX6_freeBlock_1 : decode cX6_freeBlock 1 = .ok (.getfield 37, 3) := by decide +kernel
theorem dX6_freeBlock_4 : decode cX6_freeBlock 4 = .ok (.iload_n 1, 1) := by decide +kernel
theorem dX6_freeBlock_5 : decode cX6_freeBlock 5 = .ok (.iload_n 1, 1) := by decide +kernel
theorem dX6_freeBlock_6 : decode cX6_freeBlock 6 = .ok (.iload_n 2, 1) := by decide +kernel
theorem dX6_freeBlock_7 : decode cX6_freeBlock 7 = .ok (.iadd, 1) := by decide +kernel
theorem dX6_freeBlock_8 : decode cX6_freeBlock 8 = .ok (.iconst 0, 1) := by decide +kernel
theorem dX6_freeBlock_9 : decode cX6_freeBlock 9 = .ok (.invokestatic 66, 3) := by decide +kernel
theorem dX6_freeBlock_12 : decode cX6_freeBlock 12 = .ok (.aload_n 0, 1) := by decide +kernel
theorem dX6_freeBlock_13 : decode cX6_freeBlock 13 = .ok (.aload_n 0, 1) := by decide +kernel
theorem dX6_freeBlock_14 : decode cX6_freeBlock 14 = .ok (.getfield 47, 3) := by decide +kernel
theorem dX6_freeBlock_17 : decode cX6_freeBlock 17 = .ok (.iload_n 1, 1) := by decide +kernel
theorem dX6_freeBlock_18 : decode cX6_freeBlock 18 = .ok (.invokestatic 69, 3) := by decide +kernel
theorem dX6_freeBlock_21 : decode cX6_freeBlock 21 = .ok (.putfield 47, 3) := by decide +kernel
theorem dX6_freeBlock_24 : decode cX6_freeBlock 24 = .ok (.aload_n 0, 1) := by decide +kernel
theorem dX6_freeBlock_25 : decode cX6_freeBlock 25 = .ok (.dup, 1) := by decide +kernel
theorem dX6_freeBlock_26 : decode cX6_freeBlock 26 = .ok (.getfield 50, 3) := by decide +kernel
theorem dX6_freeBlock_29 : decode cX6_freeBlock 29 = .ok (.iload_n 2, 1) := by decide +kernel
theorem dX6_freeBlock_30 : decode cX6_freeBlock 30 = .ok (.isub, 1) := by decide +kernel
theorem dX6_freeBlock_31 : decode cX6_freeBlock 31 = .ok (.putfield 50, 3) := by decide +kernel
theorem dX6_freeBlock_34 : decode cX6_freeBlock 34 = .ok (.return_, 1) := by decide +kernel
theorem dX6_init_0 : decode cX6_init 0 = .ok (.aload_n 0, 1) := by decide +kernel
theorem dX6_init_1 : decode cX6_init 1 = .ok (.invokespecial 3, 3) := by decide +kernel
theorem dX6_init_4 : decode cX6_init 4 = .ok (.aload_n 0, 1) := by decide +kernel
theorem dX6_init_5 : decode cX6_init 5 = .ok (.sipush 4064, 3) := by decide +kernel
theorem dX6_init_8 : decode cX6_init 8 = .ok (.newarray .int, 2) := by decide +kernel
theorem dX6_init_10 : decode cX6_init 10 = .ok (.putfield 9, 3) := by decide +kernel
theorem dX6_init_13 : decode cX6_init 13 = .ok (.aload_n 0, 1) := by decide +kernel
theorem dX6_init_14 : decode cX6_init 14 = .ok (.sipush 4064, 3) := by decide +kernel
theorem dX6_init_17 : decode cX6_init 17 = .ok (.newarray .int, 2) := by decide +kernel
theorem dX6_init_19 : decode cX6_init 19 = .ok (.putfield 15, 3) := by decide +kernel
theorem dX6_init_22 : decode cX6_init 22 = .ok (.aload_n 0, 1) := by decide +kernel
theorem dX6_init_23 : decode cX6_init 23 = .ok (.sipush 4064, 3) := by decide +kernel
theorem dX6_init_26 : decode cX6_init 26 = .ok (.newarray .int, 2) := by decide +kernel
theorem dX6_init_28 : decode cX6_init 28 = .ok (.putfield 18, 3) := by decide +kernel
theorem dX6_init_31 : decode cX6_init 31 = .ok (.aload_n 0, 1) := by decide +kernel
theorem dX6_init_32 : decode cX6_init 32 = .ok (.aload_n 1, 1) := by decide +kernel
theorem dX6_init_33 : decode cX6_init 33 = .ok (.putfield 21, 3) := by decide +kernel
theorem dX6_init_36 : decode cX6_init 36 = .ok (.aload_n 0, 1) := by decide +kernel
theorem dX6_init_37 : decode cX6_init 37 = .ok (.aload_n 2, 1) := by decide +kernel
theorem dX6_init_38 : decode cX6_init 38 = .ok (.putfield 25, 3) := by decide +kernel
theorem dX6_init_41 : decode cX6_init 41 = .ok (.aload_n 0, 1) := by decide +kernel
theorem dX6_init_42 : decode cX6_init 42 = .ok (.iload_n 3, 1) := by decide +kernel
theorem dX6_init_43 : decode cX6_init 43 = .ok (.putfield 29, 3) := by decide +kernel
theorem dX6_init_46 : decode cX6_init 46 = .ok (.aload_n 0, 1) := by decide +kernel
theorem dX6_init_47 : decode cX6_init 47 = .ok (.iload_n 3, 1) := by decide +kernel
theorem dX6_init_48 : decode cX6_init 48 = .ok (.sipush 8192, 3) := by decide +kernel
theorem dX6_init_51 : decode cX6_init 51 = .ok (.iadd, 1) := by decide +kernel
theorem dX6_init_52 : decode cX6_init 52 = .ok (.newarray .long, 2) := by decide +kernel
theorem dX6_init_54 : decode cX6_init 54 = .ok (.putfield 33, 3) := by decide +kernel
theorem dX6_init_57 : decode cX6_init 57 = .ok (.aload_n 0, 1) := by decide +kernel
theorem dX6_init_58 : decode cX6_init 58 = .ok (.iload_n 3, 1) := by decide +kernel
theorem dX6_init_59 : decode cX6_init 59 = .ok (.newarray .byte, 2) := by decide +kernel
theorem dX6_init_61 : decode cX6_init 61 = .ok (.putfield 37, 3) := by decide +kernel
theorem dX6_init_64 : decode cX6_init 64 = .ok (.return_, 1) := by decide +kernel
theorem dX6_makeRoom_0 : decode cX6_makeRoom 0 = .ok (.iload_n 1, 1) := by decide +kernel
theorem dX6_makeRoom_1 : decode cX6_makeRoom 1 = .ok (.aload_n 0, 1) := by decide +kernel
theorem dX6_makeRoom_2 : decode cX6_makeRoom 2 = .ok (.getfield 33, 3) := by decide +kernel
theorem dX6_makeRoom_5 : decode cX6_makeRoom 5 = .ok (.arraylength, 1) := by decide +kernel
theorem dX6_makeRoom_6 : decode cX6_makeRoom 6 = .ok (.if_icmp .le 25, 3) := by decide +kernel
theorem dX6_makeRoom_9 : decode cX6_makeRoom 9 = .ok (.aload_n 0, 1) := by decide +kernel
theorem dX6_makeRoom_10 : decode cX6_makeRoom 10 = .ok (.aload_n 0, 1) := by decide +kernel
theorem dX6_makeRoom_11 : decode cX6_makeRoom 11 = .ok (.getfield 33, 3) := by decide +kernel
theorem dX6_makeRoom_14 : decode cX6_makeRoom 14 = .ok (.iload_n 1, 1) := by decide +kernel
theorem dX6_makeRoom_15 : decode cX6_makeRoom 15 = .ok (.iconst 2, 1) := by decide +kernel
theorem dX6_makeRoom_16 : decode cX6_makeRoom 16 = .ok (.aload_n 0, 1) := by decide +kernel
theorem dX6_makeRoom_17 : decode cX6_makeRoom 17 = .ok (.getfield 33, 3) := by decide +kernel
theorem dX6_makeRoom_20 : decode cX6_makeRoom 20 = .ok (.arraylength, 1) := by decide +kernel
theorem dX6_makeRoom_21 : decode cX6_makeRoom 21 = .ok (.imul, 1) := by decide +kernel
theorem dX6_makeRoom_22 : decode cX6_makeRoom 22 = .ok (.invokestatic 56, 3) := by decide +kernel
theorem dX6_makeRoom_25 : decode cX6_makeRoom 25 = .ok (.invokestatic 62, 3) := by decide +kernel
theorem dX6_makeRoom_28 : decode cX6_makeRoom 28 = .ok (.putfield 33, 3) := by decide +kernel
theorem dX6_makeRoom_31 : decode cX6_makeRoom 31 = .ok (.return_, 1) := by decide +kernel
theorem dX6_pushDrop_0 : decode cX6_pushDrop 0 = .ok (.aload_n 0, 1) := by decide +kernel
theorem dX6_pushDrop_1 : decode cX6_pushDrop 1 = .ok (.getfield 21, 3) := by decide +kernel
theorem dX6_pushDrop_4 : decode cX6_pushDrop 4 = .ok (.getfield 116, 3) := by decide +kernel
theorem dX6_pushDrop_7 : decode cX6_pushDrop 7 = .ok (.iload_n 1, 1) := by decide +kernel
theorem dX6_pushDrop_8 : decode cX6_pushDrop 8 = .ok (.baload, 1) := by decide +kernel
theorem dX6_pushDrop_9 : decode cX6_pushDrop 9 = .ok (.ifCond .eq 59, 3) := by decide +kernel
theorem dX6_pushDrop_12 : decode cX6_pushDrop 12 = .ok (.iload_n 3, 1) := by decide +kernel
theorem dX6_pushDrop_13 : decode cX6_pushDrop 13 = .ok (.ifCond .eq 55, 3) := by decide +kernel
theorem dX6_pushDrop_16 : decode cX6_pushDrop 16 = .ok (.aload_n 0, 1) := by decide +kernel
theorem dX6_pushDrop_17 : decode cX6_pushDrop 17 = .ok (.getfield 72, 3) := by decide +kernel
theorem dX6_pushDrop_20 : decode cX6_pushDrop 20 = .ok (.aload_n 0, 1) := by decide +kernel
theorem dX6_pushDrop_21 : decode cX6_pushDrop 21 = .ok (.getfield 9, 3) := by decide +kernel
theorem dX6_pushDrop_24 : decode cX6_pushDrop 24 = .ok (.arraylength, 1) := by decide +kernel
theorem dX6_pushDrop_25 : decode cX6_pushDrop 25 = .ok (.if_icmp .ge 43, 3) := by decide +kernel
theorem dX6_pushDrop_28 : decode cX6_pushDrop 28 = .ok (.aload_n 0, 1) := by decide +kernel
theorem dX6_pushDrop_29 : decode cX6_pushDrop 29 = .ok (.getfield 9, 3) := by decide +kernel
theorem dX6_pushDrop_32 : decode cX6_pushDrop 32 = .ok (.aload_n 0, 1) := by decide +kernel
theorem dX6_pushDrop_33 : decode cX6_pushDrop 33 = .ok (.getfield 72, 3) := by decide +kernel
theorem dX6_pushDrop_36 : decode cX6_pushDrop 36 = .ok (.iload_n 1, 1) := by decide +kernel
theorem dX6_pushDrop_37 : decode cX6_pushDrop 37 = .ok (.iastore, 1) := by decide +kernel
theorem dX6_pushDrop_38 : decode cX6_pushDrop 38 = .ok (.aload_n 0, 1) := by decide +kernel
theorem dX6_pushDrop_39 : decode cX6_pushDrop 39 = .ok (.getfield 15, 3) := by decide +kernel
theorem dX6_pushDrop_42 : decode cX6_pushDrop 42 = .ok (.aload_n 0, 1) := by decide +kernel
theorem dX6_pushDrop_43 : decode cX6_pushDrop 43 = .ok (.getfield 72, 3) := by decide +kernel
theorem dX6_pushDrop_46 : decode cX6_pushDrop 46 = .ok (.iload_n 2, 1) := by decide +kernel
theorem dX6_pushDrop_47 : decode cX6_pushDrop 47 = .ok (.iastore, 1) := by decide +kernel
theorem dX6_pushDrop_48 : decode cX6_pushDrop 48 = .ok (.aload_n 0, 1) := by decide +kernel
theorem dX6_pushDrop_49 : decode cX6_pushDrop 49 = .ok (.getfield 18, 3) := by decide +kernel
theorem dX6_pushDrop_52 : decode cX6_pushDrop 52 = .ok (.aload_n 0, 1) := by decide +kernel
theorem dX6_pushDrop_53 : decode cX6_pushDrop 53 = .ok (.getfield 72, 3) := by decide +kernel
theorem dX6_pushDrop_56 : decode cX6_pushDrop 56 = .ok (.iload_n 3, 1) := by decide +kernel
theorem dX6_pushDrop_57 : decode cX6_pushDrop 57 = .ok (.iastore, 1) := by decide +kernel
theorem dX6_pushDrop_58 : decode cX6_pushDrop 58 = .ok (.aload_n 0, 1) := by decide +kernel
theorem dX6_pushDrop_59 : decode cX6_pushDrop 59 = .ok (.dup, 1) := by decide +kernel
theorem dX6_pushDrop_60 : decode cX6_pushDrop 60 = .ok (.getfield 72, 3) := by decide +kernel
theorem dX6_pushDrop_63 : decode cX6_pushDrop 63 = .ok (.iconst 1, 1) := by decide +kernel
theorem dX6_pushDrop_64 : decode cX6_pushDrop 64 = .ok (.iadd, 1) := by decide +kernel
theorem dX6_pushDrop_65 : decode cX6_pushDrop 65 = .ok (.putfield 72, 3) := by decide +kernel
theorem dX6_pushDrop_68 : decode cX6_pushDrop 68 = .ok (.return_, 1) := by decide +kernel
theorem dX6_stackBegin_0 : decode cX6_stackBegin 0 = .ok (.aload_n 0, 1) := by decide +kernel
theorem dX6_stackBegin_1 : decode cX6_stackBegin 1 = .ok (.getfield 29, 3) := by decide +kernel
theorem dX6_stackBegin_4 : decode cX6_stackBegin 4 = .ok (.ireturn, 1) := by decide +kernel
theorem dX6_takeBlock_0 : decode cX6_takeBlock 0 = .ok (.iconst 0, 1) := by decide +kernel
theorem dX6_takeBlock_1 : decode cX6_takeBlock 1 = .ok (.istore_n 2, 1) := by decide +kernel
theorem dX6_takeBlock_2 : decode cX6_takeBlock 2 = .ok (.aload_n 0, 1) := by decide +kernel
theorem dX6_takeBlock_3 : decode cX6_takeBlock 3 = .ok (.getfield 47, 3) := by decide +kernel
theorem dX6_takeBlock_6 : decode cX6_takeBlock 6 = .ok (.istore_n 3, 1) := by decide +kernel
theorem dX6_takeBlock_7 : decode cX6_takeBlock 7 = .ok (.iload_n 3, 1) := by decide +kernel
theorem dX6_takeBlock_8 : decode cX6_takeBlock 8 = .ok (.aload_n 0, 1) := by decide +kernel
theorem dX6_takeBlock_9 : decode cX6_takeBlock 9 = .ok (.getfield 29, 3) := by decide +kernel
theorem dX6_takeBlock_12 : decode cX6_takeBlock 12 = .ok (.if_icmp .ge 102, 3) := by decide +kernel
theorem dX6_takeBlock_15 : decode cX6_takeBlock 15 = .ok (.aload_n 0, 1) := by decide +kernel
theorem dX6_takeBlock_16 : decode cX6_takeBlock 16 = .ok (.getfield 37, 3) := by decide +kernel
theorem dX6_takeBlock_19 : decode cX6_takeBlock 19 = .ok (.iload_n 3, 1) := by decide +kernel
theorem dX6_takeBlock_20 : decode cX6_takeBlock 20 = .ok (.baload, 1) := by decide +kernel
theorem dX6_takeBlock_21 : decode cX6_takeBlock 21 = .ok (.ifCond .ne 9, 3) := by decide +kernel
theorem dX6_takeBlock_24 : decode cX6_takeBlock 24 = .ok (.iload_n 2, 1) := by decide +kernel
theorem dX6_takeBlock_25 : decode cX6_takeBlock 25 = .ok (.iconst 1, 1) := by decide +kernel
theorem dX6_takeBlock_26 : decode cX6_takeBlock 26 = .ok (.iadd, 1) := by decide +kernel
theorem dX6_takeBlock_27 : decode cX6_takeBlock 27 = .ok (.goto 4, 3) := by decide +kernel
theorem dX6_takeBlock_30 : decode cX6_takeBlock 30 = .ok (.iconst 0, 1) := by decide +kernel
theorem dX6_takeBlock_31 : decode cX6_takeBlock 31 = .ok (.istore_n 2, 1) := by decide +kernel
theorem dX6_takeBlock_32 : decode cX6_takeBlock 32 = .ok (.iload_n 2, 1) := by decide +kernel
theorem dX6_takeBlock_33 : decode cX6_takeBlock 33 = .ok (.iload_n 1, 1) := by decide +kernel
theorem dX6_takeBlock_34 : decode cX6_takeBlock 34 = .ok (.if_icmp .ne 74, 3) := by decide +kernel
theorem dX6_takeBlock_37 : decode cX6_takeBlock 37 = .ok (.iload_n 3, 1) := by decide +kernel
theorem dX6_takeBlock_38 : decode cX6_takeBlock 38 = .ok (.iconst 1, 1) := by decide +kernel
theorem dX6_takeBlock_39 : decode cX6_takeBlock 39 = .ok (.iadd, 1) := by decide +kernel
theorem dX6_takeBlock_40 : decode cX6_takeBlock 40 = .ok (.iload_n 1, 1) := by decide +kernel
theorem dX6_takeBlock_41 : decode cX6_takeBlock 41 = .ok (.isub, 1) := by decide +kernel
theorem dX6_takeBlock_42 : decode cX6_takeBlock 42 = .ok (.istore 4, 2) := by decide +kernel
theorem dX6_takeBlock_44 : decode cX6_takeBlock 44 = .ok (.aload_n 0, 1) := by decide +kernel
theorem dX6_takeBlock_45 : decode cX6_takeBlock 45 = .ok (.getfield 37, 3) := by decide +kernel
theorem dX6_takeBlock_48 : decode cX6_takeBlock 48 = .ok (.iload 4, 2) := by decide +kernel
theorem dX6_takeBlock_50 : decode cX6_takeBlock 50 = .ok (.iload_n 3, 1) := by decide +kernel
theorem dX6_takeBlock_51 : decode cX6_takeBlock 51 = .ok (.iconst 1, 1) := by decide +kernel
theorem dX6_takeBlock_52 : decode cX6_takeBlock 52 = .ok (.iadd, 1) := by decide +kernel
theorem dX6_takeBlock_53 : decode cX6_takeBlock 53 = .ok (.iconst 1, 1) := by decide +kernel
theorem dX6_takeBlock_54 : decode cX6_takeBlock 54 = .ok (.invokestatic 66, 3) := by decide +kernel
theorem dX6_takeBlock_57 : decode cX6_takeBlock 57 = .ok (.aload_n 0, 1) := by decide +kernel
theorem dX6_takeBlock_58 : decode cX6_takeBlock 58 = .ok (.iload 4, 2) := by decide +kernel
theorem dX6_takeBlock_60 : decode cX6_takeBlock 60 = .ok (.aload_n 0, 1) := by decide +kernel
theorem dX6_takeBlock_61 : decode cX6_takeBlock 61 = .ok (.getfield 47, 3) := by decide +kernel
theorem dX6_takeBlock_64 : decode cX6_takeBlock 64 = .ok (.if_icmp .ne 9, 3) := by decide +kernel
theorem dX6_takeBlock_67 : decode cX6_takeBlock 67 = .ok (.iload_n 3, 1) := by decide +kernel
theorem dX6_takeBlock_68 : decode cX6_takeBlock 68 = .ok (.iconst 1, 1) := by decide +kernel
theorem dX6_takeBlock_69 : decode cX6_takeBlock 69 = .ok (.iadd, 1) := by decide +kernel
theorem dX6_takeBlock_70 : decode cX6_takeBlock 70 = .ok (.goto 7, 3) := by decide +kernel
theorem dX6_takeBlock_73 : decode cX6_takeBlock 73 = .ok (.aload_n 0, 1) := by decide +kernel
theorem dX6_takeBlock_74 : decode cX6_takeBlock 74 = .ok (.getfield 47, 3) := by decide +kernel
theorem dX6_takeBlock_77 : decode cX6_takeBlock 77 = .ok (.putfield 47, 3) := by decide +kernel
theorem dX6_takeBlock_80 : decode cX6_takeBlock 80 = .ok (.aload_n 0, 1) := by decide +kernel
theorem dX6_takeBlock_81 : decode cX6_takeBlock 81 = .ok (.dup, 1) := by decide +kernel
theorem dX6_takeBlock_82 : decode cX6_takeBlock 82 = .ok (.getfield 50, 3) := by decide +kernel
theorem dX6_takeBlock_85 : decode cX6_takeBlock 85 = .ok (.iload_n 1, 1) := by decide +kernel
theorem dX6_takeBlock_86 : decode cX6_takeBlock 86 = .ok (.iadd, 1) := by decide +kernel
theorem dX6_takeBlock_87 : decode cX6_takeBlock 87 = .ok (.putfield 50, 3) := by decide +kernel
theorem dX6_takeBlock_90 : decode cX6_takeBlock 90 = .ok (.aload_n 0, 1) := by decide +kernel
theorem dX6_takeBlock_91 : decode cX6_takeBlock 91 = .ok (.aload_n 0, 1) := by decide +kernel
theorem dX6_takeBlock_92 : decode cX6_takeBlock 92 = .ok (.getfield 53, 3) := by decide +kernel
theorem dX6_takeBlock_95 : decode cX6_takeBlock 95 = .ok (.aload_n 0, 1) := by decide +kernel
theorem dX6_takeBlock_96 : decode cX6_takeBlock 96 = .ok (.getfield 50, 3) := by decide +kernel
theorem dX6_takeBlock_99 : decode cX6_takeBlock 99 = .ok (.invokestatic 56, 3) := by decide +kernel
theorem dX6_takeBlock_102 : decode cX6_takeBlock 102 = .ok (.putfield 53, 3) := by decide +kernel
theorem dX6_takeBlock_105 : decode cX6_takeBlock 105 = .ok (.iload 4, 2) := by decide +kernel
theorem dX6_takeBlock_107 : decode cX6_takeBlock 107 = .ok (.ireturn, 1) := by decide +kernel
theorem dX6_takeBlock_108 : decode cX6_takeBlock 108 = .ok (.iinc 3 1, 3) := by decide +kernel
theorem dX6_takeBlock_111 : decode cX6_takeBlock 111 = .ok (.goto (-104), 3) := by decide +kernel
theorem dX6_takeBlock_114 : decode cX6_takeBlock 114 = .ok (.iconst (-1), 1) := by decide +kernel
theorem dX6_takeBlock_115 : decode cX6_takeBlock 115 = .ok (.ireturn, 1) := by decide +kernel
