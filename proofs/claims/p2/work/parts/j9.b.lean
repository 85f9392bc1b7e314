theorem dX23_itemTypes_0 : decode cX23_itemTypes 0 = .ok (.aload_n 1, 1) := by decide +kernel
theorem dX23_itemTypes_1 : decode cX23_itemTypes 1 = .ok (.getfield 174, 3) := by decide +kernel
theorem dX23_itemTypes_4 : decode cX23_itemTypes 4 = .ok (.bipush 12, 2) := by decide +kernel
theorem dX23_itemTypes_6 : decode cX23_itemTypes 6 = .ok (.if_icmp .ne 8, 3) := by decide +kernel
theorem dX23_itemTypes_9 : decode cX23_itemTypes 9 = .ok (.aload_n 0, 1) := by decide +kernel
theorem dX23_itemTypes_10 : decode cX23_itemTypes 10 = .ok (.aload_n 1, 1) := by decide +kernel
theorem dX23_itemTypes_11 : decode cX23_itemTypes 11 = .ok (.invokevirtual 416, 3) := by decide +kernel
theorem dX23_itemTypes_14 : decode cX23_itemTypes 14 = .ok (.iconst 0, 1) := by decide +kernel
theorem dX23_itemTypes_15 : decode cX23_itemTypes 15 = .ok (.istore_n 2, 1) := by decide +kernel
theorem dX23_itemTypes_16 : decode cX23_itemTypes 16 = .ok (.iload_n 2, 1) := by decide +kernel
theorem dX23_itemTypes_17 : decode cX23_itemTypes 17 = .ok (.aload_n 1, 1) := by decide +kernel
theorem dX23_itemTypes_18 : decode cX23_itemTypes 18 = .ok (.getfield 139, 3) := by decide +kernel
theorem dX23_itemTypes_21 : decode cX23_itemTypes 21 = .ok (.if_icmp .ge 182, 3) := by decide +kernel
theorem dX23_itemTypes_24 : decode cX23_itemTypes 24 = .ok (.aload_n 0, 1) := by decide +kernel
theorem dX23_itemTypes_25 : decode cX23_itemTypes 25 = .ok (.invokevirtual 89, 3) := by decide +kernel
theorem dX23_itemTypes_28 : decode cX23_itemTypes 28 = .ok (.ifCond .eq 175, 3) := by decide +kernel
theorem dX23_itemTypes_31 : decode cX23_itemTypes 31 = .ok (.iconst 0, 1) := by decide +kernel
theorem dX23_itemTypes_32 : decode cX23_itemTypes 32 = .ok (.istore_n 3, 1) := by decide +kernel
theorem dX23_itemTypes_33 : decode cX23_itemTypes 33 = .ok (.iload_n 3, 1) := by decide +kernel
theorem dX23_itemTypes_34 : decode cX23_itemTypes 34 = .ok (.iload_n 2, 1) := by decide +kernel
theorem dX23_itemTypes_35 : decode cX23_itemTypes 35 = .ok (.if_icmp .ge 39, 3) := by decide +kernel
theorem dX23_itemTypes_38 : decode cX23_itemTypes 38 = .ok (.aload_n 0, 1) := by decide +kernel
theorem dX23_itemTypes_39 : decode cX23_itemTypes 39 = .ok (.aload_n 1, 1) := by decide +kernel
theorem dX23_itemTypes_40 : decode cX23_itemTypes 40 = .ok (.getfield 147, 3) := by decide +kernel
theorem dX23_itemTypes_43 : decode cX23_itemTypes 43 = .ok (.iload_n 3, 1) := by decide +kernel
theorem dX23_itemTypes_44 : decode cX23_itemTypes 44 = .ok (.iaload, 1) := by decide +kernel
theorem dX23_itemTypes_45 : decode cX23_itemTypes 45 = .ok (.aload_n 1, 1) := by decide +kernel
theorem dX23_itemTypes_46 : decode cX23_itemTypes 46 = .ok (.getfield 147, 3) := by decide +kernel
theorem dX23_itemTypes_49 : decode cX23_itemTypes 49 = .ok (.iload_n 2, 1) := by decide +kernel
theorem dX23_itemTypes_50 : decode cX23_itemTypes 50 = .ok (.iaload, 1) := by decide +kernel
theorem dX23_itemTypes_51 : decode cX23_itemTypes 51 = .ok (.invokevirtual 401, 3) := by decide +kernel
theorem dX23_itemTypes_54 : decode cX23_itemTypes 54 = .ok (.ifCond .eq 14, 3) := by decide +kernel
theorem dX23_itemTypes_57 : decode cX23_itemTypes 57 = .ok (.aload_n 0, 1) := by decide +kernel
theorem dX23_itemTypes_58 : decode cX23_itemTypes 58 = .ok (.iconst 3, 1) := by decide +kernel
theorem dX23_itemTypes_59 : decode cX23_itemTypes 59 = .ok (.aload_n 1, 1) := by decide +kernel
theorem dX23_itemTypes_60 : decode cX23_itemTypes 60 = .ok (.getfield 147, 3) := by decide +kernel
theorem dX23_itemTypes_63 : decode cX23_itemTypes 63 = .ok (.iload_n 2, 1) := by decide +kernel
theorem dX23_itemTypes_64 : decode cX23_itemTypes 64 = .ok (.iaload, 1) := by decide +kernel
theorem dX23_itemTypes_65 : decode cX23_itemTypes 65 = .ok (.invokevirtual 96, 3) := by decide +kernel
theorem dX23_itemTypes_68 : decode cX23_itemTypes 68 = .ok (.iinc 3 1, 3) := by decide +kernel
theorem dX23_itemTypes_71 : decode cX23_itemTypes 71 = .ok (.goto (-38), 3) := by decide +kernel
theorem dX23_itemTypes_74 : decode cX23_itemTypes 74 = .ok (.aload_n 1, 1) := by decide +kernel
theorem dX23_itemTypes_75 : decode cX23_itemTypes 75 = .ok (.getfield 174, 3) := by decide +kernel
theorem dX23_itemTypes_78 : decode cX23_itemTypes 78 = .ok (.bipush 11, 2) := by decide +kernel
theorem dX23_itemTypes_80 : decode cX23_itemTypes 80 = .ok (.if_icmp .eq 62, 3) := by decide +kernel
theorem dX23_itemTypes_83 : decode cX23_itemTypes 83 = .ok (.aload_n 1, 1) := by decide +kernel
theorem dX23_itemTypes_84 : decode cX23_itemTypes 84 = .ok (.getfield 175, 3) := by decide +kernel
theorem dX23_itemTypes_87 : decode cX23_itemTypes 87 = .ok (.iload_n 2, 1) := by decide +kernel
theorem dX23_itemTypes_88 : decode cX23_itemTypes 88 = .ok (.aload_n 0, 1) := by decide +kernel
theorem dX23_itemTypes_89 : decode cX23_itemTypes 89 = .ok (.aload_n 1, 1) := by decide +kernel
theorem dX23_itemTypes_90 : decode cX23_itemTypes 90 = .ok (.getfield 153, 3) := by decide +kernel
theorem dX23_itemTypes_93 : decode cX23_itemTypes 93 = .ok (.iload_n 2, 1) := by decide +kernel
theorem dX23_itemTypes_94 : decode cX23_itemTypes 94 = .ok (.aaload, 1) := by decide +kernel
theorem dX23_itemTypes_95 : decode cX23_itemTypes 95 = .ok (.aload_n 1, 1) := by decide +kernel
theorem dX23_itemTypes_96 : decode cX23_itemTypes 96 = .ok (.getfield 174, 3) := by decide +kernel
theorem dX23_itemTypes_99 : decode cX23_itemTypes 99 = .ok (.bipush 12, 2) := by decide +kernel
theorem dX23_itemTypes_101 : decode cX23_itemTypes 101 = .ok (.if_icmp .ne 7, 3) := by decide +kernel
theorem dX23_itemTypes_104 : decode cX23_itemTypes 104 = .ok (.iconst 1, 1) := by decide +kernel
theorem dX23_itemTypes_105 : decode cX23_itemTypes 105 = .ok (.goto 4, 3) := by decide +kernel
theorem dX23_itemTypes_108 : decode cX23_itemTypes 108 = .ok (.iconst 0, 1) := by decide +kernel
theorem dX23_itemTypes_109 : decode cX23_itemTypes 109 = .ok (.invokevirtual 409, 3) := by decide +kernel
theorem dX23_itemTypes_112 : decode cX23_itemTypes 112 = .ok (.aastore, 1) := by decide +kernel
theorem dX23_itemTypes_113 : decode cX23_itemTypes 113 = .ok (.aload_n 1, 1) := by decide +kernel
theorem dX23_itemTypes_114 : decode cX23_itemTypes 114 = .ok (.getfield 174, 3) := by decide +kernel
theorem dX23_itemTypes_117 : decode cX23_itemTypes 117 = .ok (.bipush 12, 2) := by decide +kernel
theorem dX23_itemTypes_119 : decode cX23_itemTypes 119 = .ok (.if_icmp .ne 78, 3) := by decide +kernel
theorem dX23_itemTypes_122 : decode cX23_itemTypes 122 = .ok (.aload_n 1, 1) := by decide +kernel
theorem dX23_itemTypes_123 : decode cX23_itemTypes 123 = .ok (.getfield 198, 3) := by decide +kernel
theorem dX23_itemTypes_126 : decode cX23_itemTypes 126 = .ok (.iload_n 2, 1) := by decide +kernel
theorem dX23_itemTypes_127 : decode cX23_itemTypes 127 = .ok (.aload_n 0, 1) := by decide +kernel
theorem dX23_itemTypes_128 : decode cX23_itemTypes 128 = .ok (.aload_n 1, 1) := by decide +kernel
theorem dX23_itemTypes_129 : decode cX23_itemTypes 129 = .ok (.aload_n 1, 1) := by decide +kernel
theorem dX23_itemTypes_130 : decode cX23_itemTypes 130 = .ok (.getfield 153, 3) := by decide +kernel
theorem dX23_itemTypes_133 : decode cX23_itemTypes 133 = .ok (.iload_n 2, 1) := by decide +kernel
theorem dX23_itemTypes_134 : decode cX23_itemTypes 134 = .ok (.aaload, 1) := by decide +kernel
theorem dX23_itemTypes_135 : decode cX23_itemTypes 135 = .ok (.invokevirtual 418, 3) := by decide +kernel
theorem dX23_itemTypes_138 : decode cX23_itemTypes 138 = .ok (.iastore, 1) := by decide +kernel
theorem dX23_itemTypes_139 : decode cX23_itemTypes 139 = .ok (.goto 58, 3) := by decide +kernel
theorem dX23_itemTypes_142 : decode cX23_itemTypes 142 = .ok (.iconst 0, 1) := by decide +kernel
theorem dX23_itemTypes_143 : decode cX23_itemTypes 143 = .ok (.istore_n 3, 1) := by decide +kernel
theorem dX23_itemTypes_144 : decode cX23_itemTypes 144 = .ok (.iload_n 3, 1) := by decide +kernel
theorem dX23_itemTypes_145 : decode cX23_itemTypes 145 = .ok (.aload_n 1, 1) := by decide +kernel
theorem dX23_itemTypes_146 : decode cX23_itemTypes 146 = .ok (.getfield 159, 3) := by decide +kernel
theorem dX23_itemTypes_149 : decode cX23_itemTypes 149 = .ok (.iload_n 2, 1) := by decide +kernel
theorem dX23_itemTypes_150 : decode cX23_itemTypes 150 = .ok (.aaload, 1) := by decide +kernel
theorem dX23_itemTypes_151 : decode cX23_itemTypes 151 = .ok (.getfield 170, 3) := by decide +kernel
theorem dX23_itemTypes_154 : decode cX23_itemTypes 154 = .ok (.if_icmp .ge 43, 3) := by decide +kernel
theorem dX23_itemTypes_157 : decode cX23_itemTypes 157 = .ok (.aload_n 0, 1) := by decide +kernel
theorem dX23_itemTypes_158 : decode cX23_itemTypes 158 = .ok (.invokevirtual 89, 3) := by decide +kernel
theorem dX23_itemTypes_161 : decode cX23_itemTypes 161 = .ok (.ifCond .eq 36, 3) := by decide +kernel
theorem dX23_itemTypes_164 : decode cX23_itemTypes 164 = .ok (.aload_n 1, 1) := by decide +kernel
theorem dX23_itemTypes_165 : decode cX23_itemTypes 165 = .ok (.getfield 159, 3) := by decide +kernel
theorem dX23_itemTypes_168 : decode cX23_itemTypes 168 = .ok (.iload_n 2, 1) := by decide +kernel
theorem dX23_itemTypes_169 : decode cX23_itemTypes 169 = .ok (.aaload, 1) := by decide +kernel
theorem dX23_itemTypes_170 : decode cX23_itemTypes 170 = .ok (.getfield 166, 3) := by decide +kernel
theorem dX23_itemTypes_173 : decode cX23_itemTypes 173 = .ok (.iload_n 3, 1) := by decide +kernel
theorem dX23_itemTypes_174 : decode cX23_itemTypes 174 = .ok (.aload_n 0, 1) := by decide +kernel
theorem dX23_itemTypes_175 : decode cX23_itemTypes 175 = .ok (.aload_n 1, 1) := by decide +kernel
theorem dX23_itemTypes_176 : decode cX23_itemTypes 176 = .ok (.getfield 159, 3) := by decide +kernel
theorem dX23_itemTypes_179 : decode cX23_itemTypes 179 = .ok (.iload_n 2, 1) := by decide +kernel
theorem dX23_itemTypes_180 : decode cX23_itemTypes 180 = .ok (.aaload, 1) := by decide +kernel
theorem dX23_itemTypes_181 : decode cX23_itemTypes 181 = .ok (.getfield 163, 3) := by decide +kernel
theorem dX23_itemTypes_184 : decode cX23_itemTypes 184 = .ok (.iload_n 3, 1) := by decide +kernel
theorem dX23_itemTypes_185 : decode cX23_itemTypes 185 = .ok (.aaload, 1) := by decide +kernel
theorem dX23_itemTypes_186 : decode cX23_itemTypes 186 = .ok (.iconst 0, 1) := by decide +kernel
theorem dX23_itemTypes_187 : decode cX23_itemTypes 187 = .ok (.invokevirtual 409, 3) := by decide +kernel
theorem dX23_itemTypes_190 : decode cX23_itemTypes 190 = .ok (.aastore, 1) := by decide +kernel
theorem dX23_itemTypes_191 : decode cX23_itemTypes 191 = .ok (.iinc 3 1, 3) := by decide +kernel
theorem dX23_itemTypes_194 : decode cX23_itemTypes 194 = .ok (.goto (-50), 3) := by decide +kernel
theorem dX23_itemTypes_197 : decode cX23_itemTypes 197 = .ok (.iinc 2 1, 3) := by decide +kernel
theorem dX23_itemTypes_200 : decode cX23_itemTypes 200 = .ok (.goto (-184), 3) := by decide +kernel
theorem dX23_itemTypes_203 : decode cX23_itemTypes 203 = .ok (.aload_n 1, 1) := by decide +kernel
theorem dX23_itemTypes_204 : decode cX23_itemTypes 204 = .ok (.getfield 174, 3) := by decide +kernel
theorem dX23_itemTypes_207 : decode cX23_itemTypes 207 = .ok (.bipush 12, 2) := by decide +kernel
theorem dX23_itemTypes_209 : decode cX23_itemTypes 209 = .ok (.if_icmp .ne 10, 3) := by decide +kernel
theorem dX23_itemTypes_212 : decode cX23_itemTypes 212 = .ok (.aload_n 0, 1) := by decide +kernel
theorem dX23_itemTypes_213 : decode cX23_itemTypes 213 = .ok (.invokevirtual 89, 3) := by decide +kernel
theorem dX23_itemTypes_216 : decode cX23_itemTypes 216 = .ok (.ifCond .ne 4, 3) := by decide +kernel
theorem dX23_itemTypes_219 : decode cX23_itemTypes 219 = .ok (.return_, 1) := by decide +kernel
theorem dX23_itemTypes_220 : decode cX23_itemTypes 220 = .ok (.aload_n 1, 1) := by decide +kernel
theorem dX23_itemTypes_221 : decode cX23_itemTypes 221 = .ok (.aload_n 1, 1) := by decide +kernel
theorem dX23_itemTypes_222 : decode cX23_itemTypes 222 = .ok (.getfield 210, 3) := by decide +kernel
theorem dX23_itemTypes_225 : decode cX23_itemTypes 225 = .ok (.ifnonnull 12, 3) := by decide +kernel
theorem dX23_itemTypes_228 : decode cX23_itemTypes 228 = .ok (.aload_n 0, 1) := by decide +kernel
theorem dX23_itemTypes_229 : decode cX23_itemTypes 229 = .ok (.bipush 8, 2) := by decide +kernel
theorem dX23_itemTypes_231 : decode cX23_itemTypes 231 = .ok (.invokevirtual 405, 3) := by decide +kernel
theorem dX23_itemTypes_234 : decode cX23_itemTypes 234 = .ok (.goto 12, 3) := by decide +kernel
theorem dX23_itemTypes_237 : decode cX23_itemTypes 237 = .ok (.aload_n 0, 1) := by decide +kernel
theorem dX23_itemTypes_238 : decode cX23_itemTypes 238 = .ok (.aload_n 1, 1) := by decide +kernel
theorem dX23_itemTypes_239 : decode cX23_itemTypes 239 = .ok (.getfield 210, 3) := by decide +kernel
theorem dX23_itemTypes_242 : decode cX23_itemTypes 242 = .ok (.iconst 1, 1) := by decide +kernel
theorem dX23_itemTypes_243 : decode cX23_itemTypes 243 = .ok (.invokevirtual 409, 3) := by decide +kernel
theorem dX23_itemTypes_246 : decode cX23_itemTypes 246 = .ok (.putfield 422, 3) := by decide +kernel
theorem dX23_itemTypes_249 : decode cX23_itemTypes 249 = .ok (.aload_n 1, 1) := by decide +kernel
theorem dX23_itemTypes_250 : decode cX23_itemTypes 250 = .ok (.aload_n 1, 1) := by decide +kernel
theorem dX23_itemTypes_251 : decode cX23_itemTypes 251 = .ok (.getfield 210, 3) := by decide +kernel
theorem dX23_itemTypes_254 : decode cX23_itemTypes 254 = .ok (.ifnonnull 7, 3) := by decide +kernel
theorem dX23_itemTypes_257 : decode cX23_itemTypes 257 = .ok (.iconst (-1), 1) := by decide +kernel
theorem dX23_itemTypes_258 : decode cX23_itemTypes 258 = .ok (.goto 12, 3) := by decide +kernel
theorem dX23_itemTypes_261 : decode cX23_itemTypes 261 = .ok (.aload_n 0, 1) := by decide +kernel
theorem dX23_itemTypes_262 : decode cX23_itemTypes 262 = .ok (.aload_n 1, 1) := by decide +kernel
theorem dX23_itemTypes_263 : decode cX23_itemTypes 263 = .ok (.aload_n 1, 1) := by decide +kernel
theorem dX23_itemTypes_264 : decode cX23_itemTypes 264 = .ok (.getfield 210, 3) := by decide +kernel
theorem dX23_itemTypes_267 : decode cX23_itemTypes 267 = .ok (.invokevirtual 418, 3) := by decide +kernel
theorem dX23_itemTypes_270 : decode cX23_itemTypes 270 = .ok (.putfield 425, 3) := by decide +kernel
theorem dX23_itemTypes_273 : decode cX23_itemTypes 273 = .ok (.return_, 1) := by decide +kernel
