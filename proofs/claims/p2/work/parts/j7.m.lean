theorem dX23_resolve_0 : decode cX23_resolve 0 = .ok (.aload_n 0, 1) := by decide +kernel
theorem dX23_resolve_1 : decode cX23_resolve 1 = .ok (.iconst 0, 1) := by decide +kernel
theorem dX23_resolve_2 : decode cX23_resolve 2 = .ok (.invokevirtual 405, 3) := by decide +kernel
theorem dX23_resolve_5 : decode cX23_resolve 5 = .ok (.astore_n 3, 1) := by decide +kernel
theorem dX23_resolve_6 : decode cX23_resolve 6 = .ok (.aload_n 0, 1) := by decide +kernel
theorem dX23_resolve_7 : decode cX23_resolve 7 = .ok (.invokevirtual 89, 3) := by decide +kernel
theorem dX23_resolve_10 : decode cX23_resolve 10 = .ok (.ifCond .ne 5, 3) := by decide +kernel
theorem dX23_resolve_13 : decode cX23_resolve 13 = .ok (.aload_n 3, 1) := by decide +kernel
theorem dX23_resolve_14 : decode cX23_resolve 14 = .ok (.areturn, 1) := by decide +kernel
theorem dX23_resolve_15 : decode cX23_resolve 15 = .ok (.aload_n 1, 1) := by decide +kernel
theorem dX23_resolve_16 : decode cX23_resolve 16 = .ok (.getfield 116, 3) := by decide +kernel
theorem dX23_resolve_19 : decode cX23_resolve 19 = .ok (.bipush 26, 2) := by decide +kernel
theorem dX23_resolve_21 : decode cX23_resolve 21 = .ok (.if_icmp .eq 21, 3) := by decide +kernel
theorem dX23_resolve_24 : decode cX23_resolve 24 = .ok (.aload_n 1, 1) := by decide +kernel
theorem dX23_resolve_25 : decode cX23_resolve 25 = .ok (.getfield 116, 3) := by decide +kernel
theorem dX23_resolve_28 : decode cX23_resolve 28 = .ok (.bipush 27, 2) := by decide +kernel
theorem dX23_resolve_30 : decode cX23_resolve 30 = .ok (.if_icmp .eq 12, 3) := by decide +kernel
theorem dX23_resolve_33 : decode cX23_resolve 33 = .ok (.aload_n 1, 1) := by decide +kernel
theorem dX23_resolve_34 : decode cX23_resolve 34 = .ok (.getfield 116, 3) := by decide +kernel
theorem dX23_resolve_37 : decode cX23_resolve 37 = .ok (.bipush 25, 2) := by decide +kernel
theorem dX23_resolve_39 : decode cX23_resolve 39 = .ok (.if_icmp .ne 35, 3) := by decide +kernel
theorem dX23_resolve_42 : decode cX23_resolve 42 = .ok (.aload_n 0, 1) := by decide +kernel
theorem dX23_resolve_43 : decode cX23_resolve 43 = .ok (.aload_n 1, 1) := by decide +kernel
theorem dX23_resolve_44 : decode cX23_resolve 44 = .ok (.getfield 116, 3) := by decide +kernel
theorem dX23_resolve_47 : decode cX23_resolve 47 = .ok (.bipush 26, 2) := by decide +kernel
theorem dX23_resolve_49 : decode cX23_resolve 49 = .ok (.if_icmp .ne 7, 3) := by decide +kernel
theorem dX23_resolve_52 : decode cX23_resolve 52 = .ok (.iconst 0, 1) := by decide +kernel
theorem dX23_resolve_53 : decode cX23_resolve 53 = .ok (.goto 17, 3) := by decide +kernel
theorem dX23_resolve_56 : decode cX23_resolve 56 = .ok (.aload_n 1, 1) := by decide +kernel
theorem dX23_resolve_57 : decode cX23_resolve 57 = .ok (.getfield 116, 3) := by decide +kernel
theorem dX23_resolve_60 : decode cX23_resolve 60 = .ok (.bipush 27, 2) := by decide +kernel
theorem dX23_resolve_62 : decode cX23_resolve 62 = .ok (.if_icmp .ne 7, 3) := by decide +kernel
theorem dX23_resolve_65 : decode cX23_resolve 65 = .ok (.iconst 1, 1) := by decide +kernel
theorem dX23_resolve_66 : decode cX23_resolve 66 = .ok (.goto 4, 3) := by decide +kernel
theorem dX23_resolve_69 : decode cX23_resolve 69 = .ok (.iconst 2, 1) := by decide +kernel
theorem dX23_resolve_70 : decode cX23_resolve 70 = .ok (.invokevirtual 405, 3) := by decide +kernel
theorem dX23_resolve_73 : decode cX23_resolve 73 = .ok (.areturn, 1) := by decide +kernel
theorem dX23_resolve_74 : decode cX23_resolve 74 = .ok (.aload_n 1, 1) := by decide +kernel
theorem dX23_resolve_75 : decode cX23_resolve 75 = .ok (.getfield 116, 3) := by decide +kernel
theorem dX23_resolve_78 : decode cX23_resolve 78 = .ok (.bipush 23, 2) := by decide +kernel
theorem dX23_resolve_80 : decode cX23_resolve 80 = .ok (.if_icmp .ne 19, 3) := by decide +kernel
theorem dX23_resolve_83 : decode cX23_resolve 83 = .ok (.aload_n 0, 1) := by decide +kernel
theorem dX23_resolve_84 : decode cX23_resolve 84 = .ok (.iconst 5, 1) := by decide +kernel
theorem dX23_resolve_85 : decode cX23_resolve 85 = .ok (.iconst 0, 1) := by decide +kernel
theorem dX23_resolve_86 : decode cX23_resolve 86 = .ok (.aload_n 0, 1) := by decide +kernel
theorem dX23_resolve_87 : decode cX23_resolve 87 = .ok (.aload_n 1, 1) := by decide +kernel
theorem dX23_resolve_88 : decode cX23_resolve 88 = .ok (.getfield 135, 3) := by decide +kernel
theorem dX23_resolve_91 : decode cX23_resolve 91 = .ok (.iconst 0, 1) := by decide +kernel
theorem dX23_resolve_92 : decode cX23_resolve 92 = .ok (.invokevirtual 409, 3) := by decide +kernel
theorem dX23_resolve_95 : decode cX23_resolve 95 = .ok (.invokevirtual 397, 3) := by decide +kernel
theorem dX23_resolve_98 : decode cX23_resolve 98 = .ok (.areturn, 1) := by decide +kernel
theorem dX23_resolve_99 : decode cX23_resolve 99 = .ok (.aload_n 1, 1) := by decide +kernel
theorem dX23_resolve_100 : decode cX23_resolve 100 = .ok (.getfield 116, 3) := by decide +kernel
theorem dX23_resolve_103 : decode cX23_resolve 103 = .ok (.bipush 55, 2) := by decide +kernel
theorem dX23_resolve_105 : decode cX23_resolve 105 = .ok (.if_icmp .ne 48, 3) := by decide +kernel
theorem dX23_resolve_108 : decode cX23_resolve 108 = .ok (.iload_n 2, 1) := by decide +kernel
theorem dX23_resolve_109 : decode cX23_resolve 109 = .ok (.ifCond .ne 14, 3) := by decide +kernel
theorem dX23_resolve_112 : decode cX23_resolve 112 = .ok (.aload_n 0, 1) := by decide +kernel
theorem dX23_resolve_113 : decode cX23_resolve 113 = .ok (.iconst 4, 1) := by decide +kernel
theorem dX23_resolve_114 : decode cX23_resolve 114 = .ok (.aload_n 1, 1) := by decide +kernel
theorem dX23_resolve_115 : decode cX23_resolve 115 = .ok (.getfield 113, 3) := by decide +kernel
theorem dX23_resolve_118 : decode cX23_resolve 118 = .ok (.invokevirtual 96, 3) := by decide +kernel
theorem dX23_resolve_121 : decode cX23_resolve 121 = .ok (.aload_n 3, 1) := by decide +kernel
theorem dX23_resolve_122 : decode cX23_resolve 122 = .ok (.areturn, 1) := by decide +kernel
theorem dX23_resolve_123 : decode cX23_resolve 123 = .ok (.aload_n 0, 1) := by decide +kernel
theorem dX23_resolve_124 : decode cX23_resolve 124 = .ok (.aload_n 1, 1) := by decide +kernel
theorem dX23_resolve_125 : decode cX23_resolve 125 = .ok (.getfield 128, 3) := by decide +kernel
theorem dX23_resolve_128 : decode cX23_resolve 128 = .ok (.iconst 1, 1) := by decide +kernel
theorem dX23_resolve_129 : decode cX23_resolve 129 = .ok (.if_icmp .ne 8, 3) := by decide +kernel
theorem dX23_resolve_132 : decode cX23_resolve 132 = .ok (.bipush 7, 2) := by decide +kernel
theorem dX23_resolve_134 : decode cX23_resolve 134 = .ok (.goto 5, 3) := by decide +kernel
theorem dX23_resolve_137 : decode cX23_resolve 137 = .ok (.bipush 6, 2) := by decide +kernel
theorem dX23_resolve_139 : decode cX23_resolve 139 = .ok (.iconst 0, 1) := by decide +kernel
theorem dX23_resolve_140 : decode cX23_resolve 140 = .ok (.aload_n 0, 1) := by decide +kernel
theorem dX23_resolve_141 : decode cX23_resolve 141 = .ok (.aload_n 1, 1) := by decide +kernel
theorem dX23_resolve_142 : decode cX23_resolve 142 = .ok (.getfield 135, 3) := by decide +kernel
theorem dX23_resolve_145 : decode cX23_resolve 145 = .ok (.iconst 0, 1) := by decide +kernel
theorem dX23_resolve_146 : decode cX23_resolve 146 = .ok (.invokevirtual 409, 3) := by decide +kernel
theorem dX23_resolve_149 : decode cX23_resolve 149 = .ok (.invokevirtual 397, 3) := by decide +kernel
theorem dX23_resolve_152 : decode cX23_resolve 152 = .ok (.areturn, 1) := by decide +kernel
theorem dX23_resolve_153 : decode cX23_resolve 153 = .ok (.aload_n 0, 1) := by decide +kernel
theorem dX23_resolve_154 : decode cX23_resolve 154 = .ok (.aload_n 1, 1) := by decide +kernel
theorem dX23_resolve_155 : decode cX23_resolve 155 = .ok (.getfield 113, 3) := by decide +kernel
theorem dX23_resolve_158 : decode cX23_resolve 158 = .ok (.invokevirtual 413, 3) := by decide +kernel
theorem dX23_resolve_161 : decode cX23_resolve 161 = .ok (.istore 4, 2) := by decide +kernel
theorem dX23_resolve_163 : decode cX23_resolve 163 = .ok (.iload 4, 2) := by decide +kernel
theorem dX23_resolve_165 : decode cX23_resolve 165 = .ok (.ifCond .lt 18, 3) := by decide +kernel
theorem dX23_resolve_168 : decode cX23_resolve 168 = .ok (.aload_n 0, 1) := by decide +kernel
theorem dX23_resolve_169 : decode cX23_resolve 169 = .ok (.getfield 232, 3) := by decide +kernel
theorem dX23_resolve_172 : decode cX23_resolve 172 = .ok (.iload 4, 2) := by decide +kernel
theorem dX23_resolve_174 : decode cX23_resolve 174 = .ok (.aaload, 1) := by decide +kernel
theorem dX23_resolve_175 : decode cX23_resolve 175 = .ok (.getfield 174, 3) := by decide +kernel
theorem dX23_resolve_178 : decode cX23_resolve 178 = .ok (.bipush 12, 2) := by decide +kernel
theorem dX23_resolve_180 : decode cX23_resolve 180 = .ok (.if_icmp .ne 14, 3) := by decide +kernel
theorem dX23_resolve_183 : decode cX23_resolve 183 = .ok (.aload_n 0, 1) := by decide +kernel
theorem dX23_resolve_184 : decode cX23_resolve 184 = .ok (.iconst 3, 1) := by decide +kernel
theorem dX23_resolve_185 : decode cX23_resolve 185 = .ok (.aload_n 1, 1) := by decide +kernel
theorem dX23_resolve_186 : decode cX23_resolve 186 = .ok (.getfield 113, 3) := by decide +kernel
theorem dX23_resolve_189 : decode cX23_resolve 189 = .ok (.invokevirtual 96, 3) := by decide +kernel
theorem dX23_resolve_192 : decode cX23_resolve 192 = .ok (.aload_n 3, 1) := by decide +kernel
theorem dX23_resolve_193 : decode cX23_resolve 193 = .ok (.areturn, 1) := by decide +kernel
theorem dX23_resolve_194 : decode cX23_resolve 194 = .ok (.aload_n 0, 1) := by decide +kernel
theorem dX23_resolve_195 : decode cX23_resolve 195 = .ok (.aload_n 0, 1) := by decide +kernel
theorem dX23_resolve_196 : decode cX23_resolve 196 = .ok (.getfield 232, 3) := by decide +kernel
theorem dX23_resolve_199 : decode cX23_resolve 199 = .ok (.iload 4, 2) := by decide +kernel
theorem dX23_resolve_201 : decode cX23_resolve 201 = .ok (.aaload, 1) := by decide +kernel
theorem dX23_resolve_202 : decode cX23_resolve 202 = .ok (.getfield 174, 3) := by decide +kernel
theorem dX23_resolve_205 : decode cX23_resolve 205 = .ok (.bipush 10, 2) := by decide +kernel
theorem dX23_resolve_207 : decode cX23_resolve 207 = .ok (.if_icmp .ne 7, 3) := by decide +kernel
theorem dX23_resolve_210 : decode cX23_resolve 210 = .ok (.iconst 3, 1) := by decide +kernel
theorem dX23_resolve_211 : decode cX23_resolve 211 = .ok (.goto 4, 3) := by decide +kernel
theorem dX23_resolve_214 : decode cX23_resolve 214 = .ok (.iconst 4, 1) := by decide +kernel
theorem dX23_resolve_215 : decode cX23_resolve 215 = .ok (.iload 4, 2) := by decide +kernel
theorem dX23_resolve_217 : decode cX23_resolve 217 = .ok (.aconst_null, 1) := by decide +kernel
theorem dX23_resolve_218 : decode cX23_resolve 218 = .ok (.invokevirtual 397, 3) := by decide +kernel
theorem dX23_resolve_221 : decode cX23_resolve 221 = .ok (.areturn, 1) := by decide +kernel
theorem dX23_noLife_0 : decode cX23_noLife 0 = .ok (.aload_n 0, 1) := by decide +kernel
theorem dX23_noLife_1 : decode cX23_noLife 1 = .ok (.invokevirtual 89, 3) := by decide +kernel
theorem dX23_noLife_4 : decode cX23_noLife 4 = .ok (.ifCond .eq 28, 3) := by decide +kernel
theorem dX23_noLife_7 : decode cX23_noLife 7 = .ok (.aload_n 1, 1) := by decide +kernel
theorem dX23_noLife_8 : decode cX23_noLife 8 = .ok (.getfield 116, 3) := by decide +kernel
theorem dX23_noLife_11 : decode cX23_noLife 11 = .ok (.bipush 55, 2) := by decide +kernel
theorem dX23_noLife_13 : decode cX23_noLife 13 = .ok (.if_icmp .ne 19, 3) := by decide +kernel
theorem dX23_noLife_16 : decode cX23_noLife 16 = .ok (.aload_n 1, 1) := by decide +kernel
theorem dX23_noLife_17 : decode cX23_noLife 17 = .ok (.getfield 122, 3) := by decide +kernel
theorem dX23_noLife_20 : decode cX23_noLife 20 = .ok (.ifCond .lt 12, 3) := by decide +kernel
theorem dX23_noLife_23 : decode cX23_noLife 23 = .ok (.aload_n 0, 1) := by decide +kernel
theorem dX23_noLife_24 : decode cX23_noLife 24 = .ok (.iconst 4, 1) := by decide +kernel
theorem dX23_noLife_25 : decode cX23_noLife 25 = .ok (.aload_n 1, 1) := by decide +kernel
theorem dX23_noLife_26 : decode cX23_noLife 26 = .ok (.getfield 122, 3) := by decide +kernel
theorem dX23_noLife_29 : decode cX23_noLife 29 = .ok (.invokevirtual 96, 3) := by decide +kernel
theorem dX23_noLife_32 : decode cX23_noLife 32 = .ok (.return_, 1) := by decide +kernel
theorem dX23_lifeIn_0 : decode cX23_lifeIn 0 = .ok (.aload_n 0, 1) := by decide +kernel
theorem dX23_lifeIn_1 : decode cX23_lifeIn 1 = .ok (.invokevirtual 89, 3) := by decide +kernel
theorem dX23_lifeIn_4 : decode cX23_lifeIn 4 = .ok (.ifCond .eq 19, 3) := by decide +kernel
theorem dX23_lifeIn_7 : decode cX23_lifeIn 7 = .ok (.aload_n 2, 1) := by decide +kernel
theorem dX23_lifeIn_8 : decode cX23_lifeIn 8 = .ok (.getfield 116, 3) := by decide +kernel
theorem dX23_lifeIn_11 : decode cX23_lifeIn 11 = .ok (.bipush 55, 2) := by decide +kernel
theorem dX23_lifeIn_13 : decode cX23_lifeIn 13 = .ok (.if_icmp .ne 10, 3) := by decide +kernel
theorem dX23_lifeIn_16 : decode cX23_lifeIn 16 = .ok (.aload_n 2, 1) := by decide +kernel
theorem dX23_lifeIn_17 : decode cX23_lifeIn 17 = .ok (.getfield 122, 3) := by decide +kernel
theorem dX23_lifeIn_20 : decode cX23_lifeIn 20 = .ok (.ifCond .ge 5, 3) := by decide +kernel
theorem dX23_lifeIn_23 : decode cX23_lifeIn 23 = .ok (.iconst (-1), 1) := by decide +kernel
theorem dX23_lifeIn_24 : decode cX23_lifeIn 24 = .ok (.ireturn, 1) := by decide +kernel
theorem dX23_lifeIn_25 : decode cX23_lifeIn 25 = .ok (.iconst 0, 1) := by decide +kernel
theorem dX23_lifeIn_26 : decode cX23_lifeIn 26 = .ok (.istore_n 3, 1) := by decide +kernel
theorem dX23_lifeIn_27 : decode cX23_lifeIn 27 = .ok (.iload_n 3, 1) := by decide +kernel
theorem dX23_lifeIn_28 : decode cX23_lifeIn 28 = .ok (.aload_n 1, 1) := by decide +kernel
theorem dX23_lifeIn_29 : decode cX23_lifeIn 29 = .ok (.getfield 184, 3) := by decide +kernel
theorem dX23_lifeIn_32 : decode cX23_lifeIn 32 = .ok (.if_icmp .ge 28, 3) := by decide +kernel
theorem dX23_lifeIn_35 : decode cX23_lifeIn 35 = .ok (.aload_n 0, 1) := by decide +kernel
theorem dX23_lifeIn_36 : decode cX23_lifeIn 36 = .ok (.aload_n 1, 1) := by decide +kernel
theorem dX23_lifeIn_37 : decode cX23_lifeIn 37 = .ok (.getfield 187, 3) := by decide +kernel
theorem dX23_lifeIn_40 : decode cX23_lifeIn 40 = .ok (.iload_n 3, 1) := by decide +kernel
theorem dX23_lifeIn_41 : decode cX23_lifeIn 41 = .ok (.iaload, 1) := by decide +kernel
theorem dX23_lifeIn_42 : decode cX23_lifeIn 42 = .ok (.aload_n 2, 1) := by decide +kernel
theorem dX23_lifeIn_43 : decode cX23_lifeIn 43 = .ok (.getfield 122, 3) := by decide +kernel
theorem dX23_lifeIn_46 : decode cX23_lifeIn 46 = .ok (.invokevirtual 401, 3) := by decide +kernel
theorem dX23_lifeIn_49 : decode cX23_lifeIn 49 = .ok (.ifCond .eq 5, 3) := by decide +kernel
theorem dX23_lifeIn_52 : decode cX23_lifeIn 52 = .ok (.iload_n 3, 1) := by decide +kernel
theorem dX23_lifeIn_53 : decode cX23_lifeIn 53 = .ok (.ireturn, 1) := by decide +kernel
theorem dX23_lifeIn_54 : decode cX23_lifeIn 54 = .ok (.iinc 3 1, 3) := by decide +kernel
theorem dX23_lifeIn_57 : decode cX23_lifeIn 57 = .ok (.goto (-30), 3) := by decide +kernel
theorem dX23_lifeIn_60 : decode cX23_lifeIn 60 = .ok (.aload_n 0, 1) := by decide +kernel
theorem dX23_lifeIn_61 : decode cX23_lifeIn 61 = .ok (.iconst 3, 1) := by decide +kernel
theorem dX23_lifeIn_62 : decode cX23_lifeIn 62 = .ok (.aload_n 2, 1) := by decide +kernel
theorem dX23_lifeIn_63 : decode cX23_lifeIn 63 = .ok (.getfield 122, 3) := by decide +kernel
theorem dX23_lifeIn_66 : decode cX23_lifeIn 66 = .ok (.invokevirtual 96, 3) := by decide +kernel
theorem dX23_lifeIn_69 : decode cX23_lifeIn 69 = .ok (.iconst (-1), 1) := by decide +kernel
theorem dX23_lifeIn_70 : decode cX23_lifeIn 70 = .ok (.ireturn, 1) := by decide +kernel
theorem dX23_lives_0 : decode cX23_lives 0 = .ok (.iconst 0, 1) := by decide +kernel
theorem dX23_lives_1 : decode cX23_lives 1 = .ok (.istore_n 2, 1) := by decide +kernel
theorem dX23_lives_2 : decode cX23_lives 2 = .ok (.iload_n 2, 1) := by decide +kernel
theorem dX23_lives_3 : decode cX23_lives 3 = .ok (.aload_n 1, 1) := by decide +kernel
theorem dX23_lives_4 : decode cX23_lives 4 = .ok (.getfield 184, 3) := by decide +kernel
theorem dX23_lives_7 : decode cX23_lives 7 = .ok (.if_icmp .ge 59, 3) := by decide +kernel
theorem dX23_lives_10 : decode cX23_lives 10 = .ok (.aload_n 0, 1) := by decide +kernel
theorem dX23_lives_11 : decode cX23_lives 11 = .ok (.invokevirtual 89, 3) := by decide +kernel
theorem dX23_lives_14 : decode cX23_lives 14 = .ok (.ifCond .eq 52, 3) := by decide +kernel
theorem dX23_lives_17 : decode cX23_lives 17 = .ok (.iconst 0, 1) := by decide +kernel
theorem dX23_lives_18 : decode cX23_lives 18 = .ok (.istore_n 3, 1) := by decide +kernel
theorem dX23_lives_19 : decode cX23_lives 19 = .ok (.iload_n 3, 1) := by decide +kernel
theorem dX23_lives_20 : decode cX23_lives 20 = .ok (.iload_n 2, 1) := by decide +kernel
theorem dX23_lives_21 : decode cX23_lives 21 = .ok (.if_icmp .ge 39, 3) := by decide +kernel
theorem dX23_lives_24 : decode cX23_lives 24 = .ok (.aload_n 0, 1) := by decide +kernel
theorem dX23_lives_25 : decode cX23_lives 25 = .ok (.aload_n 1, 1) := by decide +kernel
theorem dX23_lives_26 : decode cX23_lives 26 = .ok (.getfield 187, 3) := by decide +kernel
theorem dX23_lives_29 : decode cX23_lives 29 = .ok (.iload_n 3, 1) := by decide +kernel
theorem dX23_lives_30 : decode cX23_lives 30 = .ok (.iaload, 1) := by decide +kernel
theorem dX23_lives_31 : decode cX23_lives 31 = .ok (.aload_n 1, 1) := by decide +kernel
theorem dX23_lives_32 : decode cX23_lives 32 = .ok (.getfield 187, 3) := by decide +kernel
theorem dX23_lives_35 : decode cX23_lives 35 = .ok (.iload_n 2, 1) := by decide +kernel
theorem dX23_lives_36 : decode cX23_lives 36 = .ok (.iaload, 1) := by decide +kernel
theorem dX23_lives_37 : decode cX23_lives 37 = .ok (.invokevirtual 401, 3) := by decide +kernel
theorem dX23_lives_40 : decode cX23_lives 40 = .ok (.ifCond .eq 14, 3) := by decide +kernel
theorem dX23_lives_43 : decode cX23_lives 43 = .ok (.aload_n 0, 1) := by decide +kernel
theorem dX23_lives_44 : decode cX23_lives 44 = .ok (.iconst 3, 1) := by decide +kernel
theorem dX23_lives_45 : decode cX23_lives 45 = .ok (.aload_n 1, 1) := by decide +kernel
theorem dX23_lives_46 : decode cX23_lives 46 = .ok (.getfield 187, 3) := by decide +kernel
theorem dX23_lives_49 : decode cX23_lives 49 = .ok (.iload_n 2, 1) := by decide +kernel
theorem dX23_lives_50 : decode cX23_lives 50 = .ok (.iaload, 1) := by decide +kernel
theorem dX23_lives_51 : decode cX23_lives 51 = .ok (.invokevirtual 96, 3) := by decide +kernel
theorem dX23_lives_54 : decode cX23_lives 54 = .ok (.iinc 3 1, 3) := by decide +kernel
theorem dX23_lives_57 : decode cX23_lives 57 = .ok (.goto (-38), 3) := by decide +kernel
theorem dX23_lives_60 : decode cX23_lives 60 = .ok (.iinc 2 1, 3) := by decide +kernel
theorem dX23_lives_63 : decode cX23_lives 63 = .ok (.goto (-61), 3) := by decide +kernel
theorem dX23_lives_66 : decode cX23_lives 66 = .ok (.return_, 1) := by decide +kernel
theorem dX23_itemNames_0 : decode cX23_itemNames 0 = .ok (.iconst 0, 1) := by decide +kernel
theorem dX23_itemNames_1 : decode cX23_itemNames 1 = .ok (.istore_n 1, 1) := by decide +kernel
theorem dX23_itemNames_2 : decode cX23_itemNames 2 = .ok (.iload_n 1, 1) := by decide +kernel
theorem dX23_itemNames_3 : decode cX23_itemNames 3 = .ok (.aload_n 0, 1) := by decide +kernel
theorem dX23_itemNames_4 : decode cX23_itemNames 4 = .ok (.getfield 221, 3) := by decide +kernel
theorem dX23_itemNames_7 : decode cX23_itemNames 7 = .ok (.if_icmp .ge 61, 3) := by decide +kernel
theorem dX23_itemNames_10 : decode cX23_itemNames 10 = .ok (.iconst 0, 1) := by decide +kernel
theorem dX23_itemNames_11 : decode cX23_itemNames 11 = .ok (.istore_n 2, 1) := by decide +kernel
theorem dX23_itemNames_12 : decode cX23_itemNames 12 = .ok (.iload_n 2, 1) := by decide +kernel
theorem dX23_itemNames_13 : decode cX23_itemNames 13 = .ok (.iload_n 1, 1) := by decide +kernel
theorem dX23_itemNames_14 : decode cX23_itemNames 14 = .ok (.if_icmp .ge 48, 3) := by decide +kernel
theorem dX23_itemNames_17 : decode cX23_itemNames 17 = .ok (.aload_n 0, 1) := by decide +kernel
theorem dX23_itemNames_18 : decode cX23_itemNames 18 = .ok (.aload_n 0, 1) := by decide +kernel
theorem dX23_itemNames_19 : decode cX23_itemNames 19 = .ok (.getfield 232, 3) := by decide +kernel
theorem dX23_itemNames_22 : decode cX23_itemNames 22 = .ok (.iload_n 1, 1) := by decide +kernel
theorem dX23_itemNames_23 : decode cX23_itemNames 23 = .ok (.aaload, 1) := by decide +kernel
theorem dX23_itemNames_24 : decode cX23_itemNames 24 = .ok (.getfield 176, 3) := by decide +kernel
theorem dX23_itemNames_27 : decode cX23_itemNames 27 = .ok (.aload_n 0, 1) := by decide +kernel
theorem dX23_itemNames_28 : decode cX23_itemNames 28 = .ok (.getfield 232, 3) := by decide +kernel
theorem dX23_itemNames_31 : decode cX23_itemNames 31 = .ok (.iload_n 2, 1) := by decide +kernel
theorem dX23_itemNames_32 : decode cX23_itemNames 32 = .ok (.aaload, 1) := by decide +kernel
theorem dX23_itemNames_33 : decode cX23_itemNames 33 = .ok (.getfield 176, 3) := by decide +kernel
theorem dX23_itemNames_36 : decode cX23_itemNames 36 = .ok (.invokevirtual 401, 3) := by decide +kernel
theorem dX23_itemNames_39 : decode cX23_itemNames 39 = .ok (.ifCond .eq 17, 3) := by decide +kernel
theorem dX23_itemNames_42 : decode cX23_itemNames 42 = .ok (.aload_n 0, 1) := by decide +kernel
theorem dX23_itemNames_43 : decode cX23_itemNames 43 = .ok (.iconst 3, 1) := by decide +kernel
theorem dX23_itemNames_44 : decode cX23_itemNames 44 = .ok (.aload_n 0, 1) := by decide +kernel
theorem dX23_itemNames_45 : decode cX23_itemNames 45 = .ok (.getfield 232, 3) := by decide +kernel
theorem dX23_itemNames_48 : decode cX23_itemNames 48 = .ok (.iload_n 1, 1) := by decide +kernel
theorem dX23_itemNames_49 : decode cX23_itemNames 49 = .ok (.aaload, 1) := by decide +kernel
theorem dX23_itemNames_50 : decode cX23_itemNames 50 = .ok (.getfield 176, 3) := by decide +kernel
theorem dX23_itemNames_53 : decode cX23_itemNames 53 = .ok (.invokevirtual 96, 3) := by decide +kernel
theorem dX23_itemNames_56 : decode cX23_itemNames 56 = .ok (.iinc 2 1, 3) := by decide +kernel
theorem dX23_itemNames_59 : decode cX23_itemNames 59 = .ok (.goto (-47), 3) := by decide +kernel
theorem dX23_itemNames_62 : decode cX23_itemNames 62 = .ok (.iinc 1 1, 3) := by decide +kernel
theorem dX23_itemNames_65 : decode cX23_itemNames 65 = .ok (.goto (-63), 3) := by decide +kernel
theorem dX23_itemNames_68 : decode cX23_itemNames 68 = .ok (.return_, 1) := by decide +kernel
