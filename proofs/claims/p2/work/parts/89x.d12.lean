theorem dX12_count_0 : decode cX12_count 0 = .ok (.iload_n 1, 1) := by decide +kernel
theorem dX12_count_1 : decode cX12_count 1 = .ok (.tableswitch 84 0 5 #[39, 44, 52, 60, 68, 76], 39) := by decide +kernel
theorem dX12_count_40 : decode cX12_count 40 = .ok (.aload_n 0, 1) := by decide +kernel
theorem dX12_count_41 : decode cX12_count 41 = .ok (.getfield 128, 3) := by decide +kernel
theorem dX12_count_44 : decode cX12_count 44 = .ok (.ireturn, 1) := by decide +kernel
theorem dX12_count_45 : decode cX12_count 45 = .ok (.aload_n 0, 1) := by decide +kernel
theorem dX12_count_46 : decode cX12_count 46 = .ok (.getfield 96, 3) := by decide +kernel
theorem dX12_count_49 : decode cX12_count 49 = .ok (.getfield 156, 3) := by decide +kernel
theorem dX12_count_52 : decode cX12_count 52 = .ok (.ireturn, 1) := by decide +kernel
theorem dX12_count_53 : decode cX12_count 53 = .ok (.aload_n 0, 1) := by decide +kernel
theorem dX12_count_54 : decode cX12_count 54 = .ok (.getfield 96, 3) := by decide +kernel
theorem dX12_count_57 : decode cX12_count 57 = .ok (.getfield 159, 3) := by decide +kernel
theorem dX12_count_60 : decode cX12_count 60 = .ok (.ireturn, 1) := by decide +kernel
theorem dX12_count_61 : decode cX12_count 61 = .ok (.aload_n 0, 1) := by decide +kernel
theorem dX12_count_62 : decode cX12_count 62 = .ok (.getfield 12, 3) := by decide +kernel
theorem dX12_count_65 : decode cX12_count 65 = .ok (.getfield 109, 3) := by decide +kernel
theorem dX12_count_68 : decode cX12_count 68 = .ok (.ireturn, 1) := by decide +kernel
theorem dX12_count_69 : decode cX12_count 69 = .ok (.aload_n 0, 1) := by decide +kernel
theorem dX12_count_70 : decode cX12_count 70 = .ok (.getfield 84, 3) := by decide +kernel
theorem dX12_count_73 : decode cX12_count 73 = .ok (.getfield 144, 3) := by decide +kernel
theorem dX12_count_76 : decode cX12_count 76 = .ok (.ireturn, 1) := by decide +kernel
theorem dX12_count_77 : decode cX12_count 77 = .ok (.aload_n 0, 1) := by decide +kernel
theorem dX12_count_78 : decode cX12_count 78 = .ok (.getfield 80, 3) := by decide +kernel
theorem dX12_count_81 : decode cX12_count 81 = .ok (.getfield 144, 3) := by decide +kernel
theorem dX12_count_84 : decode cX12_count 84 = .ok (.ireturn, 1) := by decide +kernel
theorem dX12_count_85 : decode cX12_count 85 = .ok (.iconst (-1), 1) := by decide +kernel
theorem dX12_count_86 : decode cX12_count 86 = .ok (.ireturn, 1) := by decide +kernel
theorem dX12_feed_0 : decode cX12_feed 0 = .ok (.aload_n 0, 1) := by decide +kernel
theorem dX12_feed_1 : decode cX12_feed 1 = .ok (.getfield 12, 3) := by decide +kernel
theorem dX12_feed_4 : decode cX12_feed 4 = .ok (.getfield 109, 3) := by decide +kernel
theorem dX12_feed_7 : decode cX12_feed 7 = .ok (.bipush 20, 2) := by decide +kernel
theorem dX12_feed_9 : decode cX12_feed 9 = .ok (.iadd, 1) := by decide +kernel
theorem dX12_feed_10 : decode cX12_feed 10 = .ok (.sipush 3000, 3) := by decide +kernel
theorem dX12_feed_13 : decode cX12_feed 13 = .ok (.if_icmp .le 5, 3) := by decide +kernel
theorem dX12_feed_16 : decode cX12_feed 16 = .ok (.iconst 0, 1) := by decide +kernel
theorem dX12_feed_17 : decode cX12_feed 17 = .ok (.ireturn, 1) := by decide +kernel
theorem dX12_feed_18 : decode cX12_feed 18 = .ok (.aload_n 0, 1) := by decide +kernel
theorem dX12_feed_19 : decode cX12_feed 19 = .ok (.getfield 12, 3) := by decide +kernel
theorem dX12_feed_22 : decode cX12_feed 22 = .ok (.iload_n 1, 1) := by decide +kernel
theorem dX12_feed_23 : decode cX12_feed 23 = .ok (.invokevirtual 112, 3) := by decide +kernel
theorem dX12_feed_26 : decode cX12_feed 26 = .ok (.aload_n 0, 1) := by decide +kernel
theorem dX12_feed_27 : decode cX12_feed 27 = .ok (.getfield 12, 3) := by decide +kernel
theorem dX12_feed_30 : decode cX12_feed 30 = .ok (.iload_n 2, 1) := by decide +kernel
theorem dX12_feed_31 : decode cX12_feed 31 = .ok (.invokevirtual 112, 3) := by decide +kernel
theorem dX12_feed_34 : decode cX12_feed 34 = .ok (.aload_n 0, 1) := by decide +kernel
theorem dX12_feed_35 : decode cX12_feed 35 = .ok (.getfield 12, 3) := by decide +kernel
theorem dX12_feed_38 : decode cX12_feed 38 = .ok (.iload_n 3, 1) := by decide +kernel
theorem dX12_feed_39 : decode cX12_feed 39 = .ok (.invokevirtual 112, 3) := by decide +kernel
theorem dX12_feed_42 : decode cX12_feed 42 = .ok (.aload_n 0, 1) := by decide +kernel
theorem dX12_feed_43 : decode cX12_feed 43 = .ok (.getfield 12, 3) := by decide +kernel
theorem dX12_feed_46 : decode cX12_feed 46 = .ok (.iload 4, 2) := by decide +kernel
theorem dX12_feed_48 : decode cX12_feed 48 = .ok (.invokevirtual 112, 3) := by decide +kernel
theorem dX12_feed_51 : decode cX12_feed 51 = .ok (.aload_n 0, 1) := by decide +kernel
theorem dX12_feed_52 : decode cX12_feed 52 = .ok (.getfield 12, 3) := by decide +kernel
theorem dX12_feed_55 : decode cX12_feed 55 = .ok (.iload 5, 2) := by decide +kernel
theorem dX12_feed_57 : decode cX12_feed 57 = .ok (.invokevirtual 112, 3) := by decide +kernel
theorem dX12_feed_60 : decode cX12_feed 60 = .ok (.iconst 1, 1) := by decide +kernel
theorem dX12_feed_61 : decode cX12_feed 61 = .ok (.ireturn, 1) := by decide +kernel
theorem dX12_fetch_0 : decode cX12_fetch 0 = .ok (.aload_n 0, 1) := by decide +kernel
theorem dX12_fetch_1 : decode cX12_fetch 1 = .ok (.getfield 84, 3) := by decide +kernel
theorem dX12_fetch_4 : decode cX12_fetch 4 = .ok (.getfield 144, 3) := by decide +kernel
theorem dX12_fetch_7 : decode cX12_fetch 7 = .ok (.bipush 7, 2) := by decide +kernel
theorem dX12_fetch_9 : decode cX12_fetch 9 = .ok (.invokestatic 147, 3) := by decide +kernel
theorem dX12_fetch_12 : decode cX12_fetch 12 = .ok (.istore_n 1, 1) := by decide +kernel
theorem dX12_fetch_13 : decode cX12_fetch 13 = .ok (.iload_n 1, 1) := by decide +kernel
theorem dX12_fetch_14 : decode cX12_fetch 14 = .ok (.i2l, 1) := by decide +kernel
theorem dX12_fetch_15 : decode cX12_fetch 15 = .ok (.lstore_n 2, 1) := by decide +kernel
theorem dX12_fetch_16 : decode cX12_fetch 16 = .ok (.iconst 0, 1) := by decide +kernel
theorem dX12_fetch_17 : decode cX12_fetch 17 = .ok (.istore 4, 2) := by decide +kernel
theorem dX12_fetch_19 : decode cX12_fetch 19 = .ok (.iload 4, 2) := by decide +kernel
theorem dX12_fetch_21 : decode cX12_fetch 21 = .ok (.bipush 7, 2) := by decide +kernel
theorem dX12_fetch_23 : decode cX12_fetch 23 = .ok (.if_icmp .ge 32, 3) := by decide +kernel
theorem dX12_fetch_26 : decode cX12_fetch 26 = .ok (.lload_n 2, 1) := by decide +kernel
theorem dX12_fetch_27 : decode cX12_fetch 27 = .ok (.bipush 8, 2) := by decide +kernel
theorem dX12_fetch_29 : decode cX12_fetch 29 = .ok (.lshl, 1) := by decide +kernel
theorem dX12_fetch_30 : decode cX12_fetch 30 = .ok (.iload 4, 2) := by decide +kernel
theorem dX12_fetch_32 : decode cX12_fetch 32 = .ok (.iload_n 1, 1) := by decide +kernel
theorem dX12_fetch_33 : decode cX12_fetch 33 = .ok (.if_icmp .ge 13, 3) := by decide +kernel
theorem dX12_fetch_36 : decode cX12_fetch 36 = .ok (.aload_n 0, 1) := by decide +kernel
theorem dX12_fetch_37 : decode cX12_fetch 37 = .ok (.getfield 84, 3) := by decide +kernel
theorem dX12_fetch_40 : decode cX12_fetch 40 = .ok (.invokevirtual 152, 3) := by decide +kernel
theorem dX12_fetch_43 : decode cX12_fetch 43 = .ok (.goto 4, 3) := by decide +kernel
theorem dX12_fetch_46 : decode cX12_fetch 46 = .ok (.lconst 0, 1) := by decide +kernel
theorem dX12_fetch_47 : decode cX12_fetch 47 = .ok (.lor, 1) := by decide +kernel
theorem dX12_fetch_48 : decode cX12_fetch 48 = .ok (.lstore_n 2, 1) := by decide +kernel
theorem dX12_fetch_49 : decode cX12_fetch 49 = .ok (.iinc 4 1, 3) := by decide +kernel
theorem dX12_fetch_52 : decode cX12_fetch 52 = .ok (.goto (-33), 3) := by decide +kernel
theorem dX12_fetch_55 : decode cX12_fetch 55 = .ok (.lload_n 2, 1) := by decide +kernel
theorem dX12_fetch_56 : decode cX12_fetch 56 = .ok (.lreturn, 1) := by decide +kernel
theorem dX12_init_0 : decode cX12_init 0 = .ok (.aload_n 0, 1) := by decide +kernel
theorem dX12_init_1 : decode cX12_init 1 = .ok (.invokespecial 3, 3) := by decide +kernel
theorem dX12_init_4 : decode cX12_init 4 = .ok (.aload_n 0, 1) := by decide +kernel
theorem dX12_init_5 : decode cX12_init 5 = .ok (.new 9, 3) := by decide +kernel
theorem dX12_init_8 : decode cX12_init 8 = .ok (.dup, 1) := by decide +kernel
theorem dX12_init_9 : decode cX12_init 9 = .ok (.invokespecial 11, 3) := by decide +kernel
theorem dX12_init_12 : decode cX12_init 12 = .ok (.putfield 12, 3) := by decide +kernel
theorem dX12_init_15 : decode cX12_init 15 = .ok (.aload_n 0, 1) := by decide +kernel
theorem dX12_init_16 : decode cX12_init 16 = .ok (.new 16, 3) := by decide +kernel
theorem dX12_init_19 : decode cX12_init 19 = .ok (.dup, 1) := by decide +kernel
theorem dX12_init_20 : decode cX12_init 20 = .ok (.aload_n 0, 1) := by decide +kernel
theorem dX12_init_21 : decode cX12_init 21 = .ok (.getfield 12, 3) := by decide +kernel
theorem dX12_init_24 : decode cX12_init 24 = .ok (.invokespecial 18, 3) := by decide +kernel
theorem dX12_init_27 : decode cX12_init 27 = .ok (.putfield 21, 3) := by decide +kernel
theorem dX12_init_30 : decode cX12_init 30 = .ok (.aload_n 0, 1) := by decide +kernel
theorem dX12_init_31 : decode cX12_init 31 = .ok (.new 25, 3) := by decide +kernel
theorem dX12_init_34 : decode cX12_init 34 = .ok (.dup, 1) := by decide +kernel
theorem dX12_init_35 : decode cX12_init 35 = .ok (.invokespecial 27, 3) := by decide +kernel
theorem dX12_init_38 : decode cX12_init 38 = .ok (.putfield 28, 3) := by decide +kernel
theorem dX12_init_41 : decode cX12_init 41 = .ok (.aload_n 0, 1) := by decide +kernel
theorem dX12_init_42 : decode cX12_init 42 = .ok (.new 32, 3) := by decide +kernel
theorem dX12_init_45 : decode cX12_init 45 = .ok (.dup, 1) := by decide +kernel
theorem dX12_init_46 : decode cX12_init 46 = .ok (.aload_n 0, 1) := by decide +kernel
theorem dX12_init_47 : decode cX12_init 47 = .ok (.getfield 12, 3) := by decide +kernel
theorem dX12_init_50 : decode cX12_init 50 = .ok (.aload_n 0, 1) := by decide +kernel
theorem dX12_init_51 : decode cX12_init 51 = .ok (.getfield 28, 3) := by decide +kernel
theorem dX12_init_54 : decode cX12_init 54 = .ok (.invokespecial 34, 3) := by decide +kernel
theorem dX12_init_57 : decode cX12_init 57 = .ok (.putfield 37, 3) := by decide +kernel
theorem dX12_init_60 : decode cX12_init 60 = .ok (.aload_n 0, 1) := by decide +kernel
theorem dX12_init_61 : decode cX12_init 61 = .ok (.new 41, 3) := by decide +kernel
theorem dX12_init_64 : decode cX12_init 64 = .ok (.dup, 1) := by decide +kernel
theorem dX12_init_65 : decode cX12_init 65 = .ok (.invokespecial 43, 3) := by decide +kernel
theorem dX12_init_68 : decode cX12_init 68 = .ok (.putfield 44, 3) := by decide +kernel
theorem dX12_init_71 : decode cX12_init 71 = .ok (.aload_n 0, 1) := by decide +kernel
theorem dX12_init_72 : decode cX12_init 72 = .ok (.new 48, 3) := by decide +kernel
theorem dX12_init_75 : decode cX12_init 75 = .ok (.dup, 1) := by decide +kernel
theorem dX12_init_76 : decode cX12_init 76 = .ok (.aload_n 0, 1) := by decide +kernel
theorem dX12_init_77 : decode cX12_init 77 = .ok (.getfield 12, 3) := by decide +kernel
theorem dX12_init_80 : decode cX12_init 80 = .ok (.aload_n 0, 1) := by decide +kernel
theorem dX12_init_81 : decode cX12_init 81 = .ok (.getfield 28, 3) := by decide +kernel
theorem dX12_init_84 : decode cX12_init 84 = .ok (.aload_n 0, 1) := by decide +kernel
theorem dX12_init_85 : decode cX12_init 85 = .ok (.getfield 37, 3) := by decide +kernel
theorem dX12_init_88 : decode cX12_init 88 = .ok (.aload_n 0, 1) := by decide +kernel
theorem dX12_init_89 : decode cX12_init 89 = .ok (.getfield 44, 3) := by decide +kernel
theorem dX12_init_92 : decode cX12_init 92 = .ok (.invokespecial 50, 3) := by decide +kernel
theorem dX12_init_95 : decode cX12_init 95 = .ok (.putfield 53, 3) := by decide +kernel
theorem dX12_init_98 : decode cX12_init 98 = .ok (.aload_n 0, 1) := by decide +kernel
theorem dX12_init_99 : decode cX12_init 99 = .ok (.new 57, 3) := by decide +kernel
theorem dX12_init_102 : decode cX12_init 102 = .ok (.dup, 1) := by decide +kernel
theorem dX12_init_103 : decode cX12_init 103 = .ok (.aload_n 0, 1) := by decide +kernel
theorem dX12_init_104 : decode cX12_init 104 = .ok (.getfield 28, 3) := by decide +kernel
theorem dX12_init_107 : decode cX12_init 107 = .ok (.aload_n 0, 1) := by decide +kernel
theorem dX12_init_108 : decode cX12_init 108 = .ok (.getfield 44, 3) := by decide +kernel
theorem dX12_init_111 : decode cX12_init 111 = .ok (.invokespecial 59, 3) := by decide +kernel
theorem dX12_init_114 : decode cX12_init 114 = .ok (.putfield 62, 3) := by decide +kernel
theorem dX12_init_117 : decode cX12_init 117 = .ok (.aload_n 0, 1) := by decide +kernel
theorem dX12_init_118 : decode cX12_init 118 = .ok (.new 66, 3) := by decide +kernel
theorem dX12_init_121 : decode cX12_init 121 = .ok (.dup, 1) := by decide +kernel
theorem dX12_init_122 : decode cX12_init 122 = .ok (.aload_n 0, 1) := by decide +kernel
theorem dX12_init_123 : decode cX12_init 123 = .ok (.getfield 28, 3) := by decide +kernel
theorem dX12_init_126 : decode cX12_init 126 = .ok (.aload_n 0, 1) := by decide +kernel
theorem dX12_init_127 : decode cX12_init 127 = .ok (.getfield 44, 3) := by decide +kernel
theorem dX12_init_130 : decode cX12_init 130 = .ok (.aload_n 0, 1) := by decide +kernel
theorem dX12_init_131 : decode cX12_init 131 = .ok (.getfield 37, 3) := by decide +kernel
theorem dX12_init_134 : decode cX12_init 134 = .ok (.invokespecial 68, 3) := by decide +kernel
theorem dX12_init_137 : decode cX12_init 137 = .ok (.putfield 71, 3) := by decide +kernel
theorem dX12_init_140 : decode cX12_init 140 = .ok (.aload_n 0, 1) := by decide +kernel
theorem dX12_init_141 : decode cX12_init 141 = .ok (.new 75, 3) := by decide +kernel
theorem dX12_init_144 : decode cX12_init 144 = .ok (.dup, 1) := by decide +kernel
theorem dX12_init_145 : decode cX12_init 145 = .ok (.bipush 60, 2) := by decide +kernel
theorem dX12_init_147 : decode cX12_init 147 = .ok (.invokespecial 77, 3) := by decide +kernel
theorem dX12_init_150 : decode cX12_init 150 = .ok (.putfield 80, 3) := by decide +kernel
theorem dX12_init_153 : decode cX12_init 153 = .ok (.aload_n 0, 1) := by decide +kernel
theorem dX12_init_154 : decode cX12_init 154 = .ok (.new 75, 3) := by decide +kernel
theorem dX12_init_157 : decode cX12_init 157 = .ok (.dup, 1) := by decide +kernel
theorem dX12_init_158 : decode cX12_init 158 = .ok (.sipush 4000, 3) := by decide +kernel
theorem dX12_init_161 : decode cX12_init 161 = .ok (.invokespecial 77, 3) := by decide +kernel
theorem dX12_init_164 : decode cX12_init 164 = .ok (.putfield 84, 3) := by decide +kernel
theorem dX12_init_167 : decode cX12_init 167 = .ok (.aload_n 0, 1) := by decide +kernel
theorem dX12_init_168 : decode cX12_init 168 = .ok (.iconst (-1), 1) := by decide +kernel
theorem dX12_init_169 : decode cX12_init 169 = .ok (.putfield 87, 3) := by decide +kernel
theorem dX12_init_172 : decode cX12_init 172 = .ok (.iload_n 1, 1) := by decide +kernel
theorem dX12_init_173 : decode cX12_init 173 = .ok (.bipush 16, 2) := by decide +kernel
theorem dX12_init_175 : decode cX12_init 175 = .ok (.if_icmp .lt 14, 3) := by decide +kernel
theorem dX12_init_178 : decode cX12_init 178 = .ok (.iload_n 1, 1) := by decide +kernel
theorem dX12_init_179 : decode cX12_init 179 = .ok (.sipush 4000, 3) := by decide +kernel
theorem dX12_init_182 : decode cX12_init 182 = .ok (.if_icmp .gt 7, 3) := by decide +kernel
theorem dX12_init_185 : decode cX12_init 185 = .ok (.iload_n 1, 1) := by decide +kernel
theorem dX12_init_186 : decode cX12_init 186 = .ok (.goto 6, 3) := by decide +kernel
theorem dX12_init_189 : decode cX12_init 189 = .ok (.sipush 500, 3) := by decide +kernel
theorem dX12_init_192 : decode cX12_init 192 = .ok (.istore_n 2, 1) := by decide +kernel
theorem dX12_init_193 : decode cX12_init 193 = .ok (.aload_n 0, 1) := by decide +kernel
theorem dX12_init_194 : decode cX12_init 194 = .ok (.new 91, 3) := by decide +kernel
theorem dX12_init_197 : decode cX12_init 197 = .ok (.dup, 1) := by decide +kernel
theorem dX12_init_198 : decode cX12_init 198 = .ok (.aload_n 0, 1) := by decide +kernel
theorem dX12_init_199 : decode cX12_init 199 = .ok (.getfield 28, 3) := by decide +kernel
theorem dX12_init_202 : decode cX12_init 202 = .ok (.aload_n 0, 1) := by decide +kernel
theorem dX12_init_203 : decode cX12_init 203 = .ok (.getfield 84, 3) := by decide +kernel
theorem dX12_init_206 : decode cX12_init 206 = .ok (.iload_n 2, 1) := by decide +kernel
theorem dX12_init_207 : decode cX12_init 207 = .ok (.invokespecial 93, 3) := by decide +kernel
theorem dX12_init_210 : decode cX12_init 210 = .ok (.putfield 96, 3) := by decide +kernel
theorem dX12_init_213 : decode cX12_init 213 = .ok (.aload_n 0, 1) := by decide +kernel
theorem dX12_init_214 : decode cX12_init 214 = .ok (.new 100, 3) := by decide +kernel
theorem dX12_init_217 : decode cX12_init 217 = .ok (.dup, 1) := by decide +kernel
theorem dX12_init_218 : decode cX12_init 218 = .ok (.aload_n 0, 1) := by decide +kernel
theorem dX12_init_219 : decode cX12_init 219 = .ok (.getfield 44, 3) := by decide +kernel
theorem dX12_init_222 : decode cX12_init 222 = .ok (.aload_n 0, 1) := by decide +kernel
theorem dX12_init_223 : decode cX12_init 223 = .ok (.getfield 28, 3) := by decide +kernel
theorem dX12_init_226 : decode cX12_init 226 = .ok (.aload_n 0, 1) := by decide +kernel
theorem dX12_init_227 : decode cX12_init 227 = .ok (.getfield 37, 3) := by decide +kernel
theorem dX12_init_230 : decode cX12_init 230 = .ok (.aload_n 0, 1) := by decide +kernel
theorem dX12_init_231 : decode cX12_init 231 = .ok (.getfield 96, 3) := by decide +kernel
theorem dX12_init_234 : decode cX12_init 234 = .ok (.aload_n 0, 1) := by decide +kernel
theorem dX12_init_235 : decode cX12_init 235 = .ok (.getfield 80, 3) := by decide +kernel
theorem dX12_init_238 : decode cX12_init 238 = .ok (.aload_n 0, 1) := by decide +kernel
theorem dX12_init_239 : decode cX12_init 239 = .ok (.getfield 84, 3) := by decide +kernel
theorem dX12_init_242 : decode cX12_init 242 = .ok (.invokespecial 102, 3) := by decide +kernel
theorem dX12_init_245 : decode cX12_init 245 = .ok (.putfield 105, 3) := by decide +kernel
theorem dX12_init_248 : decode cX12_init 248 = .ok (.return_, 1) := by decide +kernel
theorem dX12_input_0 : decode cX12_input 0 = .ok (.aload_n 0, 1) := by decide +kernel
theorem dX12_input_1 : decode cX12_input 1 = .ok (.getfield 80, 3) := by decide +kernel
theorem dX12_input_4 : decode cX12_input 4 = .ok (.lload_n 1, 1) := by decide +kernel
theorem dX12_input_5 : decode cX12_input 5 = .ok (.invokevirtual 115, 3) := by decide +kernel
theorem dX12_input_8 : decode cX12_input 8 = .ok (.ireturn, 1) := by decide +kernel
theorem dX12_levelOf_0 : decode cX12_levelOf 0 = .ok (.iload_n 0, 1) := by decide +kernel
theorem dX12_levelOf_1 : decode cX12_levelOf 1 = .ok (.lookupswitch 125 #[(37, 123), (42, 123), (43, 121), (45, 121), (47, 123), (60, 119), (62, 119), (128, 119), (129, 119), (130, 119), (131, 119), (132, 117), (133, 115)], 115) := by decide +kernel
theorem dX12_levelOf_116 : decode cX12_levelOf 116 = .ok (.iconst 1, 1) := by decide +kernel
theorem dX12_levelOf_117 : decode cX12_levelOf 117 = .ok (.ireturn, 1) := by decide +kernel
theorem dX12_levelOf_118 : decode cX12_levelOf 118 = .ok (.iconst 2, 1) := by decide +kernel
theorem dX12_levelOf_119 : decode cX12_levelOf 119 = .ok (.ireturn, 1) := by decide +kernel
theorem dX12_levelOf_120 : decode cX12_levelOf 120 = .ok (.iconst 3, 1) := by decide +kernel
theorem dX12_levelOf_121 : decode cX12_levelOf 121 = .ok (.ireturn, 1) := by decide +kernel
theorem dX12_levelOf_122 : decode cX12_levelOf 122 = .ok (.iconst 4, 1) := by decide +kernel
theorem dX12_levelOf_123 : decode cX12_levelOf 123 = .ok (.ireturn, 1) := by decide +kernel
theorem dX12_levelOf_124 : decode cX12_levelOf 124 = .ok (.iconst 5, 1) := by decide +kernel
theorem dX12_levelOf_125 : decode cX12_levelOf 125 = .ok (.ireturn, 1) := by decide +kernel
theorem dX12_levelOf_126 : decode cX12_levelOf 126 = .ok (.iconst 0, 1) := by decide +kernel
theorem dX12_levelOf_127 : decode cX12_levelOf 127 = .ok (.ireturn, 1) := by decide +kernel
theorem dX12_lookOver_0 : decode cX12_lookOver 0 = .ok (.aload_n 0, 1) := by decide +kernel
theorem dX12_lookOver_1 : decode cX12_lookOver 1 = .ok (.getfield 12, 3) := by decide +kernel
theorem dX12_lookOver_4 : decode cX12_lookOver 4 = .ok (.iload_n 1, 1) := by decide +kernel
theorem dX12_lookOver_5 : decode cX12_lookOver 5 = .ok (.invokevirtual 162, 3) := by decide +kernel
theorem dX12_lookOver_8 : decode cX12_lookOver 8 = .ok (.aload_n 0, 1) := by decide +kernel
theorem dX12_lookOver_9 : decode cX12_lookOver 9 = .ok (.getfield 21, 3) := by decide +kernel
theorem dX12_lookOver_12 : decode cX12_lookOver 12 = .ok (.invokevirtual 165, 3) := by decide +kernel
theorem dX12_lookOver_15 : decode cX12_lookOver 15 = .ok (.aload_n 0, 1) := by decide +kernel
theorem dX12_lookOver_16 : decode cX12_lookOver 16 = .ok (.getfield 12, 3) := by decide +kernel
theorem dX12_lookOver_19 : decode cX12_lookOver 19 = .ok (.getfield 131, 3) := by decide +kernel
theorem dX12_lookOver_22 : decode cX12_lookOver 22 = .ok (.ifCond .ne 14, 3) := by decide +kernel
theorem dX12_lookOver_25 : decode cX12_lookOver 25 = .ok (.aload_n 0, 1) := by decide +kernel
theorem dX12_lookOver_26 : decode cX12_lookOver 26 = .ok (.getfield 37, 3) := by decide +kernel
theorem dX12_lookOver_29 : decode cX12_lookOver 29 = .ok (.aload_n 0, 1) := by decide +kernel
theorem dX12_lookOver_30 : decode cX12_lookOver 30 = .ok (.getfield 21, 3) := by decide +kernel
theorem dX12_lookOver_33 : decode cX12_lookOver 33 = .ok (.invokevirtual 168, 3) := by decide +kernel
theorem dX12_lookOver_36 : decode cX12_lookOver 36 = .ok (.aload_n 0, 1) := by decide +kernel
theorem dX12_lookOver_37 : decode cX12_lookOver 37 = .ok (.getfield 12, 3) := by decide +kernel
theorem dX12_lookOver_40 : decode cX12_lookOver 40 = .ok (.getfield 131, 3) := by decide +kernel
theorem dX12_lookOver_43 : decode cX12_lookOver 43 = .ok (.ifCond .ne 10, 3) := by decide +kernel
theorem dX12_lookOver_46 : decode cX12_lookOver 46 = .ok (.aload_n 0, 1) := by decide +kernel
theorem dX12_lookOver_47 : decode cX12_lookOver 47 = .ok (.getfield 53, 3) := by decide +kernel
theorem dX12_lookOver_50 : decode cX12_lookOver 50 = .ok (.invokevirtual 171, 3) := by decide +kernel
theorem dX12_lookOver_53 : decode cX12_lookOver 53 = .ok (.iconst 0, 1) := by decide +kernel
theorem dX12_lookOver_54 : decode cX12_lookOver 54 = .ok (.istore_n 2, 1) := by decide +kernel
theorem dX12_lookOver_55 : decode cX12_lookOver 55 = .ok (.iload_n 2, 1) := by decide +kernel
theorem dX12_lookOver_56 : decode cX12_lookOver 56 = .ok (.aload_n 0, 1) := by decide +kernel
theorem dX12_lookOver_57 : decode cX12_lookOver 57 = .ok (.getfield 37, 3) := by decide +kernel
theorem dX12_lookOver_60 : decode cX12_lookOver 60 = .ok (.getfield 172, 3) := by decide +kernel
theorem dX12_lookOver_63 : decode cX12_lookOver 63 = .ok (.if_icmp .ge 94, 3) := by decide +kernel
theorem dX12_lookOver_66 : decode cX12_lookOver 66 = .ok (.aload_n 0, 1) := by decide +kernel
theorem dX12_lookOver_67 : decode cX12_lookOver 67 = .ok (.getfield 12, 3) := by decide +kernel
theorem dX12_lookOver_70 : decode cX12_lookOver 70 = .ok (.getfield 131, 3) := by decide +kernel
theorem dX12_lookOver_73 : decode cX12_lookOver 73 = .ok (.ifCond .ne 84, 3) := by decide +kernel
theorem dX12_lookOver_76 : decode cX12_lookOver 76 = .ok (.aload_n 0, 1) := by decide +kernel
theorem dX12_lookOver_77 : decode cX12_lookOver 77 = .ok (.getfield 62, 3) := by decide +kernel
theorem dX12_lookOver_80 : decode cX12_lookOver 80 = .ok (.aload_n 0, 1) := by decide +kernel
theorem dX12_lookOver_81 : decode cX12_lookOver 81 = .ok (.getfield 37, 3) := by decide +kernel
theorem dX12_lookOver_84 : decode cX12_lookOver 84 = .ok (.getfield 175, 3) := by decide +kernel
theorem dX12_lookOver_87 : decode cX12_lookOver 87 = .ok (.iload_n 2, 1) := by decide +kernel
theorem dX12_lookOver_88 : decode cX12_lookOver 88 = .ok (.aaload, 1) := by decide +kernel
theorem dX12_lookOver_89 : decode cX12_lookOver 89 = .ok (.invokevirtual 179, 3) := by decide +kernel
theorem dX12_lookOver_92 : decode cX12_lookOver 92 = .ok (.istore_n 3, 1) := by decide +kernel
theorem dX12_lookOver_93 : decode cX12_lookOver 93 = .ok (.iload_n 3, 1) := by decide +kernel
theorem dX12_lookOver_94 : decode cX12_lookOver 94 = .ok (.ifCond .lt 7, 3) := by decide +kernel
theorem dX12_lookOver_97 : decode cX12_lookOver 97 = .ok (.iconst (-1), 1) := by decide +kernel
theorem dX12_lookOver_98 : decode cX12_lookOver 98 = .ok (.goto 19, 3) := by decide +kernel
theorem dX12_lookOver_101 : decode cX12_lookOver 101 = .ok (.aload_n 0, 1) := by decide +kernel
theorem dX12_lookOver_102 : decode cX12_lookOver 102 = .ok (.getfield 71, 3) := by decide +kernel
theorem dX12_lookOver_105 : decode cX12_lookOver 105 = .ok (.aload_n 0, 1) := by decide +kernel
theorem dX12_lookOver_106 : decode cX12_lookOver 106 = .ok (.getfield 37, 3) := by decide +kernel
theorem dX12_lookOver_109 : decode cX12_lookOver 109 = .ok (.getfield 175, 3) := by decide +kernel
theorem dX12_lookOver_112 : decode cX12_lookOver 112 = .ok (.iload_n 2, 1) := by decide +kernel
theorem dX12_lookOver_113 : decode cX12_lookOver 113 = .ok (.aaload, 1) := by decide +kernel
theorem dX12_lookOver_114 : decode cX12_lookOver 114 = .ok (.invokevirtual 183, 3) := by decide +kernel
theorem dX12_lookOver_117 : decode cX12_lookOver 117 = .ok (.istore 4, 2) := by decide +kernel
theorem dX12_lookOver_119 : decode cX12_lookOver 119 = .ok (.iload_n 3, 1) := by decide +kernel
theorem dX12_lookOver_120 : decode cX12_lookOver 120 = .ok (.ifCond .lt 15, 3) := by decide +kernel
theorem dX12_lookOver_123 : decode cX12_lookOver 123 = .ok (.aload_n 0, 1) := by decide +kernel
theorem dX12_lookOver_124 : decode cX12_lookOver 124 = .ok (.getfield 12, 3) := by decide +kernel
theorem dX12_lookOver_127 : decode cX12_lookOver 127 = .ok (.iconst 5, 1) := by decide +kernel
theorem dX12_lookOver_128 : decode cX12_lookOver 128 = .ok (.iload_n 3, 1) := by decide +kernel
theorem dX12_lookOver_129 : decode cX12_lookOver 129 = .ok (.invokevirtual 184, 3) := by decide +kernel
theorem dX12_lookOver_132 : decode cX12_lookOver 132 = .ok (.goto 19, 3) := by decide +kernel
theorem dX12_lookOver_135 : decode cX12_lookOver 135 = .ok (.iload 4, 2) := by decide +kernel
theorem dX12_lookOver_137 : decode cX12_lookOver 137 = .ok (.ifCond .lt 14, 3) := by decide +kernel
theorem dX12_lookOver_140 : decode cX12_lookOver 140 = .ok (.aload_n 0, 1) := by decide +kernel
theorem dX12_lookOver_141 : decode cX12_lookOver 141 = .ok (.getfield 12, 3) := by decide +kernel
theorem dX12_lookOver_144 : decode cX12_lookOver 144 = .ok (.bipush 6, 2) := by decide +kernel
theorem dX12_lookOver_146 : decode cX12_lookOver 146 = .ok (.iload 4, 2) := by decide +kernel
theorem dX12_lookOver_148 : decode cX12_lookOver 148 = .ok (.invokevirtual 184, 3) := by decide +kernel
theorem dX12_lookOver_151 : decode cX12_lookOver 151 = .ok (.iinc 2 1, 3) := by decide +kernel
theorem dX12_lookOver_154 : decode cX12_lookOver 154 = .ok (.goto (-99), 3) := by decide +kernel
theorem dX12_lookOver_157 : decode cX12_lookOver 157 = .ok (.return_, 1) := by decide +kernel
theorem dX12_place_0 : decode cX12_place 0 = .ok (.aload_n 0, 1) := by decide +kernel
theorem dX12_place_1 : decode cX12_place 1 = .ok (.getfield 87, 3) := by decide +kernel
theorem dX12_place_4 : decode cX12_place 4 = .ok (.ireturn, 1) := by decide +kernel
theorem dX12_run_0 : decode cX12_run 0 = .ok (.iload_n 1, 1) := by decide +kernel
theorem dX12_run_1 : decode cX12_run 1 = .ok (.ifCond .lt 25, 3) := by decide +kernel
theorem dX12_run_4 : decode cX12_run 4 = .ok (.iload_n 1, 1) := by decide +kernel
theorem dX12_run_5 : decode cX12_run 5 = .ok (.aload_n 0, 1) := by decide +kernel
theorem dX12_run_6 : decode cX12_run 6 = .ok (.getfield 12, 3) := by decide +kernel
theorem dX12_run_9 : decode cX12_run 9 = .ok (.getfield 109, 3) := by decide +kernel
theorem dX12_run_12 : decode cX12_run 12 = .ok (.if_icmp .gt 14, 3) := by decide +kernel
theorem dX12_run_15 : decode cX12_run 15 = .ok (.iload_n 2, 1) := by decide +kernel
theorem dX12_run_16 : decode cX12_run 16 = .ok (.ifCond .lt 10, 3) := by decide +kernel
theorem dX12_run_19 : decode cX12_run 19 = .ok (.iload_n 2, 1) := by decide +kernel
theorem dX12_run_20 : decode cX12_run 20 = .ok (.sipush 20000, 3) := by decide +kernel
theorem dX12_run_23 : decode cX12_run 23 = .ok (.if_icmp .le 5, 3) := by decide +kernel
theorem dX12_run_26 : decode cX12_run 26 = .ok (.iconst (-1), 1) := by decide +kernel
theorem dX12_run_27 : decode cX12_run 27 = .ok (.ireturn, 1) := by decide +kernel
theorem dX12_run_28 : decode cX12_run 28 = .ok (.aload_n 0, 1) := by decide +kernel
theorem dX12_run_29 : decode cX12_run 29 = .ok (.getfield 96, 3) := by decide +kernel
theorem dX12_run_32 : decode cX12_run 32 = .ok (.invokevirtual 119, 3) := by decide +kernel
theorem dX12_run_35 : decode cX12_run 35 = .ok (.aload_n 0, 1) := by decide +kernel
theorem dX12_run_36 : decode cX12_run 36 = .ok (.iload_n 1, 1) := by decide +kernel
theorem dX12_run_37 : decode cX12_run 37 = .ok (.invokevirtual 122, 3) := by decide +kernel
theorem dX12_run_40 : decode cX12_run 40 = .ok (.aload_n 0, 1) := by decide +kernel
theorem dX12_run_41 : decode cX12_run 41 = .ok (.getfield 12, 3) := by decide +kernel
theorem dX12_run_44 : decode cX12_run 44 = .ok (.iconst 0, 1) := by decide +kernel
theorem dX12_run_45 : decode cX12_run 45 = .ok (.putfield 109, 3) := by decide +kernel
theorem dX12_run_48 : decode cX12_run 48 = .ok (.aload_n 0, 1) := by decide +kernel
theorem dX12_run_49 : decode cX12_run 49 = .ok (.aload_n 0, 1) := by decide +kernel
theorem dX12_run_50 : decode cX12_run 50 = .ok (.getfield 12, 3) := by decide +kernel
theorem dX12_run_53 : decode cX12_run 53 = .ok (.getfield 125, 3) := by decide +kernel
theorem dX12_run_56 : decode cX12_run 56 = .ok (.putfield 87, 3) := by decide +kernel
theorem dX12_run_59 : decode cX12_run 59 = .ok (.aload_n 0, 1) := by decide +kernel
theorem dX12_run_60 : decode cX12_run 60 = .ok (.iload_n 2, 1) := by decide +kernel
theorem dX12_run_61 : decode cX12_run 61 = .ok (.putfield 128, 3) := by decide +kernel
theorem dX12_run_64 : decode cX12_run 64 = .ok (.aload_n 0, 1) := by decide +kernel
theorem dX12_run_65 : decode cX12_run 65 = .ok (.getfield 12, 3) := by decide +kernel
theorem dX12_run_68 : decode cX12_run 68 = .ok (.getfield 131, 3) := by decide +kernel
theorem dX12_run_71 : decode cX12_run 71 = .ok (.ifCond .eq 11, 3) := by decide +kernel
theorem dX12_run_74 : decode cX12_run 74 = .ok (.aload_n 0, 1) := by decide +kernel
theorem dX12_run_75 : decode cX12_run 75 = .ok (.getfield 12, 3) := by decide +kernel
theorem dX12_run_78 : decode cX12_run 78 = .ok (.getfield 131, 3) := by decide +kernel
theorem dX12_run_81 : decode cX12_run 81 = .ok (.ireturn, 1) := by decide +kernel
theorem dX12_run_82 : decode cX12_run 82 = .ok (.aload_n 0, 1) := by decide +kernel
theorem dX12_run_83 : decode cX12_run 83 = .ok (.getfield 105, 3) := by decide +kernel
theorem dX12_run_86 : decode cX12_run 86 = .ok (.aload_n 0, 1) := by decide +kernel
theorem dX12_run_87 : decode cX12_run 87 = .ok (.getfield 37, 3) := by decide +kernel
theorem dX12_run_90 : decode cX12_run 90 = .ok (.getfield 134, 3) := by decide +kernel
theorem dX12_run_93 : decode cX12_run 93 = .ok (.iload_n 2, 1) := by decide +kernel
theorem dX12_run_94 : decode cX12_run 94 = .ok (.invokevirtual 137, 3) := by decide +kernel
theorem dX12_run_97 : decode cX12_run 97 = .ok (.istore_n 3, 1) := by decide +kernel
theorem dX12_run_98 : decode cX12_run 98 = .ok (.aload_n 0, 1) := by decide +kernel
theorem dX12_run_99 : decode cX12_run 99 = .ok (.aload_n 0, 1) := by decide +kernel
theorem dX12_run_100 : decode cX12_run 100 = .ok (.getfield 105, 3) := by decide +kernel
theorem dX12_run_103 : decode cX12_run 103 = .ok (.getfield 141, 3) := by decide +kernel
theorem dX12_run_106 : decode cX12_run 106 = .ok (.putfield 128, 3) := by decide +kernel
theorem dX12_run_109 : decode cX12_run 109 = .ok (.iload_n 3, 1) := by decide +kernel
theorem dX12_run_110 : decode cX12_run 110 = .ok (.ireturn, 1) := by decide +kernel
