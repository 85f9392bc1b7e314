theorem dX9_add_0 : decode cX9_add 0 = .ok (.aload_n 0, 1) := by decide +kernel
theorem dX9_add_1 : decode cX9_add 1 = .ok (.getfield 9, 3) := by decide +kernel
theorem dX9_add_4 : decode cX9_add 4 = .ok (.aload_n 0, 1) := by decide +kernel
theorem dX9_add_5 : decode cX9_add 5 = .ok (.getfield 92, 3) := by decide +kernel
theorem dX9_add_8 : decode cX9_add 8 = .ok (.iload_n 1, 1) := by decide +kernel
theorem dX9_add_9 : decode cX9_add 9 = .ok (.iastore, 1) := by decide +kernel
theorem dX9_add_10 : decode cX9_add 10 = .ok (.aload_n 0, 1) := by decide +kernel
theorem dX9_add_11 : decode cX9_add 11 = .ok (.getfield 15, 3) := by decide +kernel
theorem dX9_add_14 : decode cX9_add 14 = .ok (.aload_n 0, 1) := by decide +kernel
theorem dX9_add_15 : decode cX9_add 15 = .ok (.getfield 92, 3) := by decide +kernel
theorem dX9_add_18 : decode cX9_add 18 = .ok (.iload_n 2, 1) := by decide +kernel
theorem dX9_add_19 : decode cX9_add 19 = .ok (.iastore, 1) := by decide +kernel
theorem dX9_add_20 : decode cX9_add 20 = .ok (.aload_n 0, 1) := by decide +kernel
theorem dX9_add_21 : decode cX9_add 21 = .ok (.getfield 18, 3) := by decide +kernel
theorem dX9_add_24 : decode cX9_add 24 = .ok (.aload_n 0, 1) := by decide +kernel
theorem dX9_add_25 : decode cX9_add 25 = .ok (.getfield 92, 3) := by decide +kernel
theorem dX9_add_28 : decode cX9_add 28 = .ok (.iload_n 3, 1) := by decide +kernel
theorem dX9_add_29 : decode cX9_add 29 = .ok (.iastore, 1) := by decide +kernel
theorem dX9_add_30 : decode cX9_add 30 = .ok (.aload_n 0, 1) := by decide +kernel
theorem dX9_add_31 : decode cX9_add 31 = .ok (.getfield 25, 3) := by decide +kernel
theorem dX9_add_34 : decode cX9_add 34 = .ok (.aload_n 0, 1) := by decide +kernel
theorem dX9_add_35 : decode cX9_add 35 = .ok (.getfield 92, 3) := by decide +kernel
theorem dX9_add_38 : decode cX9_add 38 = .ok (.iconst 0, 1) := by decide +kernel
theorem dX9_add_39 : decode cX9_add 39 = .ok (.iastore, 1) := by decide +kernel
theorem dX9_add_40 : decode cX9_add 40 = .ok (.aload_n 0, 1) := by decide +kernel
theorem dX9_add_41 : decode cX9_add 41 = .ok (.dup, 1) := by decide +kernel
theorem dX9_add_42 : decode cX9_add 42 = .ok (.getfield 92, 3) := by decide +kernel
theorem dX9_add_45 : decode cX9_add 45 = .ok (.iconst 1, 1) := by decide +kernel
theorem dX9_add_46 : decode cX9_add 46 = .ok (.iadd, 1) := by decide +kernel
theorem dX9_add_47 : decode cX9_add 47 = .ok (.putfield 92, 3) := by decide +kernel
theorem dX9_add_50 : decode cX9_add 50 = .ok (.return_, 1) := by decide +kernel
theorem dX9_addBad_0 : decode cX9_addBad 0 = .ok (.aload_n 0, 1) := by decide +kernel
theorem dX9_addBad_1 : decode cX9_addBad 1 = .ok (.iconst 1, 1) := by decide +kernel
theorem dX9_addBad_2 : decode cX9_addBad 2 = .ok (.iload_n 1, 1) := by decide +kernel
theorem dX9_addBad_3 : decode cX9_addBad 3 = .ok (.iconst 0, 1) := by decide +kernel
theorem dX9_addBad_4 : decode cX9_addBad 4 = .ok (.invokevirtual 102, 3) := by decide +kernel
theorem dX9_addBad_7 : decode cX9_addBad 7 = .ok (.iload_n 2, 1) := by decide +kernel
theorem dX9_addBad_8 : decode cX9_addBad 8 = .ok (.ireturn, 1) := by decide +kernel
theorem dX9_addName_0 : decode cX9_addName 0 = .ok (.aload_n 0, 1) := by decide +kernel
theorem dX9_addName_1 : decode cX9_addName 1 = .ok (.getfield 89, 3) := by decide +kernel
theorem dX9_addName_4 : decode cX9_addName 4 = .ok (.istore 5, 2) := by decide +kernel
theorem dX9_addName_6 : decode cX9_addName 6 = .ok (.iload 5, 2) := by decide +kernel
theorem dX9_addName_8 : decode cX9_addName 8 = .ok (.ifCond .ne 7, 3) := by decide +kernel
theorem dX9_addName_11 : decode cX9_addName 11 = .ok (.iconst 0, 1) := by decide +kernel
theorem dX9_addName_12 : decode cX9_addName 12 = .ok (.goto 22, 3) := by decide +kernel
theorem dX9_addName_15 : decode cX9_addName 15 = .ok (.aload_n 0, 1) := by decide +kernel
theorem dX9_addName_16 : decode cX9_addName 16 = .ok (.getfield 39, 3) := by decide +kernel
theorem dX9_addName_19 : decode cX9_addName 19 = .ok (.iload 5, 2) := by decide +kernel
theorem dX9_addName_21 : decode cX9_addName 21 = .ok (.iconst 1, 1) := by decide +kernel
theorem dX9_addName_22 : decode cX9_addName 22 = .ok (.isub, 1) := by decide +kernel
theorem dX9_addName_23 : decode cX9_addName 23 = .ok (.iaload, 1) := by decide +kernel
theorem dX9_addName_24 : decode cX9_addName 24 = .ok (.aload_n 0, 1) := by decide +kernel
theorem dX9_addName_25 : decode cX9_addName 25 = .ok (.getfield 42, 3) := by decide +kernel
theorem dX9_addName_28 : decode cX9_addName 28 = .ok (.iload 5, 2) := by decide +kernel
theorem dX9_addName_30 : decode cX9_addName 30 = .ok (.iconst 1, 1) := by decide +kernel
theorem dX9_addName_31 : decode cX9_addName 31 = .ok (.isub, 1) := by decide +kernel
theorem dX9_addName_32 : decode cX9_addName 32 = .ok (.iaload, 1) := by decide +kernel
theorem dX9_addName_33 : decode cX9_addName 33 = .ok (.iadd, 1) := by decide +kernel
theorem dX9_addName_34 : decode cX9_addName 34 = .ok (.istore 6, 2) := by decide +kernel
theorem dX9_addName_36 : decode cX9_addName 36 = .ok (.aload_n 2, 1) := by decide +kernel
theorem dX9_addName_37 : decode cX9_addName 37 = .ok (.iload_n 3, 1) := by decide +kernel
theorem dX9_addName_38 : decode cX9_addName 38 = .ok (.aload_n 0, 1) := by decide +kernel
theorem dX9_addName_39 : decode cX9_addName 39 = .ok (.getfield 36, 3) := by decide +kernel
theorem dX9_addName_42 : decode cX9_addName 42 = .ok (.iload 6, 2) := by decide +kernel
theorem dX9_addName_44 : decode cX9_addName 44 = .ok (.iload 4, 2) := by decide +kernel
theorem dX9_addName_46 : decode cX9_addName 46 = .ok (.invokestatic 83, 3) := by decide +kernel
theorem dX9_addName_49 : decode cX9_addName 49 = .ok (.aload_n 0, 1) := by decide +kernel
theorem dX9_addName_50 : decode cX9_addName 50 = .ok (.getfield 39, 3) := by decide +kernel
theorem dX9_addName_53 : decode cX9_addName 53 = .ok (.iload 5, 2) := by decide +kernel
theorem dX9_addName_55 : decode cX9_addName 55 = .ok (.iload 6, 2) := by decide +kernel
theorem dX9_addName_57 : decode cX9_addName 57 = .ok (.iastore, 1) := by decide +kernel
theorem dX9_addName_58 : decode cX9_addName 58 = .ok (.aload_n 0, 1) := by decide +kernel
theorem dX9_addName_59 : decode cX9_addName 59 = .ok (.getfield 42, 3) := by decide +kernel
theorem dX9_addName_62 : decode cX9_addName 62 = .ok (.iload 5, 2) := by decide +kernel
theorem dX9_addName_64 : decode cX9_addName 64 = .ok (.iload 4, 2) := by decide +kernel
theorem dX9_addName_66 : decode cX9_addName 66 = .ok (.iastore, 1) := by decide +kernel
theorem dX9_addName_67 : decode cX9_addName 67 = .ok (.aload_n 0, 1) := by decide +kernel
theorem dX9_addName_68 : decode cX9_addName 68 = .ok (.getfield 45, 3) := by decide +kernel
theorem dX9_addName_71 : decode cX9_addName 71 = .ok (.iload 5, 2) := by decide +kernel
theorem dX9_addName_73 : decode cX9_addName 73 = .ok (.aload_n 0, 1) := by decide +kernel
theorem dX9_addName_74 : decode cX9_addName 74 = .ok (.getfield 48, 3) := by decide +kernel
theorem dX9_addName_77 : decode cX9_addName 77 = .ok (.iload_n 1, 1) := by decide +kernel
theorem dX9_addName_78 : decode cX9_addName 78 = .ok (.iaload, 1) := by decide +kernel
theorem dX9_addName_79 : decode cX9_addName 79 = .ok (.iastore, 1) := by decide +kernel
theorem dX9_addName_80 : decode cX9_addName 80 = .ok (.aload_n 0, 1) := by decide +kernel
theorem dX9_addName_81 : decode cX9_addName 81 = .ok (.getfield 48, 3) := by decide +kernel
theorem dX9_addName_84 : decode cX9_addName 84 = .ok (.iload_n 1, 1) := by decide +kernel
theorem dX9_addName_85 : decode cX9_addName 85 = .ok (.iload 5, 2) := by decide +kernel
theorem dX9_addName_87 : decode cX9_addName 87 = .ok (.iastore, 1) := by decide +kernel
theorem dX9_addName_88 : decode cX9_addName 88 = .ok (.aload_n 0, 1) := by decide +kernel
theorem dX9_addName_89 : decode cX9_addName 89 = .ok (.dup, 1) := by decide +kernel
theorem dX9_addName_90 : decode cX9_addName 90 = .ok (.getfield 89, 3) := by decide +kernel
theorem dX9_addName_93 : decode cX9_addName 93 = .ok (.iconst 1, 1) := by decide +kernel
theorem dX9_addName_94 : decode cX9_addName 94 = .ok (.iadd, 1) := by decide +kernel
theorem dX9_addName_95 : decode cX9_addName 95 = .ok (.putfield 89, 3) := by decide +kernel
theorem dX9_addName_98 : decode cX9_addName 98 = .ok (.iload 5, 2) := by decide +kernel
theorem dX9_addName_100 : decode cX9_addName 100 = .ok (.ireturn, 1) := by decide +kernel
theorem dX9_append_0 : decode cX9_append 0 = .ok (.bipush 24, 2) := by decide +kernel
theorem dX9_append_2 : decode cX9_append 2 = .ok (.istore_n 2, 1) := by decide +kernel
theorem dX9_append_3 : decode cX9_append 3 = .ok (.iload_n 2, 1) := by decide +kernel
theorem dX9_append_4 : decode cX9_append 4 = .ok (.ifCond .lt 32, 3) := by decide +kernel
theorem dX9_append_7 : decode cX9_append 7 = .ok (.aload_n 0, 1) := by decide +kernel
theorem dX9_append_8 : decode cX9_append 8 = .ok (.getfield 32, 3) := by decide +kernel
theorem dX9_append_11 : decode cX9_append 11 = .ok (.aload_n 0, 1) := by decide +kernel
theorem dX9_append_12 : decode cX9_append 12 = .ok (.getfield 81, 3) := by decide +kernel
theorem dX9_append_15 : decode cX9_append 15 = .ok (.iload_n 1, 1) := by decide +kernel
theorem dX9_append_16 : decode cX9_append 16 = .ok (.iload_n 2, 1) := by decide +kernel
theorem dX9_append_17 : decode cX9_append 17 = .ok (.ishr, 1) := by decide +kernel
theorem dX9_append_18 : decode cX9_append 18 = .ok (.i2b, 1) := by decide +kernel
theorem dX9_append_19 : decode cX9_append 19 = .ok (.bastore, 1) := by decide +kernel
theorem dX9_append_20 : decode cX9_append 20 = .ok (.aload_n 0, 1) := by decide +kernel
theorem dX9_append_21 : decode cX9_append 21 = .ok (.dup, 1) := by decide +kernel
theorem dX9_append_22 : decode cX9_append 22 = .ok (.getfield 81, 3) := by decide +kernel
theorem dX9_append_25 : decode cX9_append 25 = .ok (.iconst 1, 1) := by decide +kernel
theorem dX9_append_26 : decode cX9_append 26 = .ok (.iadd, 1) := by decide +kernel
theorem dX9_append_27 : decode cX9_append 27 = .ok (.putfield 81, 3) := by decide +kernel
theorem dX9_append_30 : decode cX9_append 30 = .ok (.iinc 2 (-8), 3) := by decide +kernel
theorem dX9_append_33 : decode cX9_append 33 = .ok (.goto (-30), 3) := by decide +kernel
theorem dX9_append_36 : decode cX9_append 36 = .ok (.return_, 1) := by decide +kernel
theorem dX9_fail_0 : decode cX9_fail 0 = .ok (.aload_n 0, 1) := by decide +kernel
theorem dX9_fail_1 : decode cX9_fail 1 = .ok (.getfield 95, 3) := by decide +kernel
theorem dX9_fail_4 : decode cX9_fail 4 = .ok (.ifCond .ne 13, 3) := by decide +kernel
theorem dX9_fail_7 : decode cX9_fail 7 = .ok (.aload_n 0, 1) := by decide +kernel
theorem dX9_fail_8 : decode cX9_fail 8 = .ok (.iload_n 1, 1) := by decide +kernel
theorem dX9_fail_9 : decode cX9_fail 9 = .ok (.putfield 95, 3) := by decide +kernel
theorem dX9_fail_12 : decode cX9_fail 12 = .ok (.aload_n 0, 1) := by decide +kernel
theorem dX9_fail_13 : decode cX9_fail 13 = .ok (.iload_n 2, 1) := by decide +kernel
theorem dX9_fail_14 : decode cX9_fail 14 = .ok (.putfield 28, 3) := by decide +kernel
theorem dX9_fail_17 : decode cX9_fail 17 = .ok (.aload_n 0, 1) := by decide +kernel
theorem dX9_fail_18 : decode cX9_fail 18 = .ok (.aload_n 0, 1) := by decide +kernel
theorem dX9_fail_19 : decode cX9_fail 19 = .ok (.getfield 92, 3) := by decide +kernel
theorem dX9_fail_22 : decode cX9_fail 22 = .ok (.iconst 1, 1) := by decide +kernel
theorem dX9_fail_23 : decode cX9_fail 23 = .ok (.isub, 1) := by decide +kernel
theorem dX9_fail_24 : decode cX9_fail 24 = .ok (.putfield 106, 3) := by decide +kernel
theorem dX9_fail_27 : decode cX9_fail 27 = .ok (.return_, 1) := by decide +kernel
theorem dX9_init_0 : decode cX9_init 0 = .ok (.aload_n 0, 1) := by decide +kernel
theorem dX9_init_1 : decode cX9_init 1 = .ok (.invokespecial 3, 3) := by decide +kernel
theorem dX9_init_4 : decode cX9_init 4 = .ok (.aload_n 0, 1) := by decide +kernel
theorem dX9_init_5 : decode cX9_init 5 = .ok (.sipush 3002, 3) := by decide +kernel
theorem dX9_init_8 : decode cX9_init 8 = .ok (.newarray .int, 2) := by decide +kernel
theorem dX9_init_10 : decode cX9_init 10 = .ok (.putfield 9, 3) := by decide +kernel
theorem dX9_init_13 : decode cX9_init 13 = .ok (.aload_n 0, 1) := by decide +kernel
theorem dX9_init_14 : decode cX9_init 14 = .ok (.sipush 3002, 3) := by decide +kernel
theorem dX9_init_17 : decode cX9_init 17 = .ok (.newarray .int, 2) := by decide +kernel
theorem dX9_init_19 : decode cX9_init 19 = .ok (.putfield 15, 3) := by decide +kernel
theorem dX9_init_22 : decode cX9_init 22 = .ok (.aload_n 0, 1) := by decide +kernel
theorem dX9_init_23 : decode cX9_init 23 = .ok (.sipush 3002, 3) := by decide +kernel
theorem dX9_init_26 : decode cX9_init 26 = .ok (.newarray .int, 2) := by decide +kernel
theorem dX9_init_28 : decode cX9_init 28 = .ok (.putfield 18, 3) := by decide +kernel
theorem dX9_init_31 : decode cX9_init 31 = .ok (.aload_n 0, 1) := by decide +kernel
theorem dX9_init_32 : decode cX9_init 32 = .ok (.sipush 3002, 3) := by decide +kernel
theorem dX9_init_35 : decode cX9_init 35 = .ok (.newarray .long, 2) := by decide +kernel
theorem dX9_init_37 : decode cX9_init 37 = .ok (.putfield 21, 3) := by decide +kernel
theorem dX9_init_40 : decode cX9_init 40 = .ok (.aload_n 0, 1) := by decide +kernel
theorem dX9_init_41 : decode cX9_init 41 = .ok (.sipush 3002, 3) := by decide +kernel
theorem dX9_init_44 : decode cX9_init 44 = .ok (.newarray .int, 2) := by decide +kernel
theorem dX9_init_46 : decode cX9_init 46 = .ok (.putfield 25, 3) := by decide +kernel
theorem dX9_init_49 : decode cX9_init 49 = .ok (.aload_n 0, 1) := by decide +kernel
theorem dX9_init_50 : decode cX9_init 50 = .ok (.iconst (-1), 1) := by decide +kernel
theorem dX9_init_51 : decode cX9_init 51 = .ok (.putfield 28, 3) := by decide +kernel
theorem dX9_init_54 : decode cX9_init 54 = .ok (.aload_n 0, 1) := by decide +kernel
theorem dX9_init_55 : decode cX9_init 55 = .ok (.sipush 3000, 3) := by decide +kernel
theorem dX9_init_58 : decode cX9_init 58 = .ok (.newarray .byte, 2) := by decide +kernel
theorem dX9_init_60 : decode cX9_init 60 = .ok (.putfield 32, 3) := by decide +kernel
theorem dX9_init_63 : decode cX9_init 63 = .ok (.aload_n 0, 1) := by decide +kernel
theorem dX9_init_64 : decode cX9_init 64 = .ok (.sipush 3120, 3) := by decide +kernel
theorem dX9_init_67 : decode cX9_init 67 = .ok (.newarray .byte, 2) := by decide +kernel
theorem dX9_init_69 : decode cX9_init 69 = .ok (.putfield 36, 3) := by decide +kernel
theorem dX9_init_72 : decode cX9_init 72 = .ok (.aload_n 0, 1) := by decide +kernel
theorem dX9_init_73 : decode cX9_init 73 = .ok (.sipush 3020, 3) := by decide +kernel
theorem dX9_init_76 : decode cX9_init 76 = .ok (.newarray .int, 2) := by decide +kernel
theorem dX9_init_78 : decode cX9_init 78 = .ok (.putfield 39, 3) := by decide +kernel
theorem dX9_init_81 : decode cX9_init 81 = .ok (.aload_n 0, 1) := by decide +kernel
theorem dX9_init_82 : decode cX9_init 82 = .ok (.sipush 3020, 3) := by decide +kernel
theorem dX9_init_85 : decode cX9_init 85 = .ok (.newarray .int, 2) := by decide +kernel
theorem dX9_init_87 : decode cX9_init 87 = .ok (.putfield 42, 3) := by decide +kernel
theorem dX9_init_90 : decode cX9_init 90 = .ok (.aload_n 0, 1) := by decide +kernel
theorem dX9_init_91 : decode cX9_init 91 = .ok (.sipush 3020, 3) := by decide +kernel
theorem dX9_init_94 : decode cX9_init 94 = .ok (.newarray .int, 2) := by decide +kernel
theorem dX9_init_96 : decode cX9_init 96 = .ok (.putfield 45, 3) := by decide +kernel
theorem dX9_init_99 : decode cX9_init 99 = .ok (.aload_n 0, 1) := by decide +kernel
theorem dX9_init_100 : decode cX9_init 100 = .ok (.sipush 256, 3) := by decide +kernel
theorem dX9_init_103 : decode cX9_init 103 = .ok (.newarray .int, 2) := by decide +kernel
theorem dX9_init_105 : decode cX9_init 105 = .ok (.putfield 48, 3) := by decide +kernel
theorem dX9_init_108 : decode cX9_init 108 = .ok (.aload_n 0, 1) := by decide +kernel
theorem dX9_init_109 : decode cX9_init 109 = .ok (.getfield 48, 3) := by decide +kernel
theorem dX9_init_112 : decode cX9_init 112 = .ok (.iconst (-1), 1) := by decide +kernel
theorem dX9_init_113 : decode cX9_init 113 = .ok (.invokestatic 51, 3) := by decide +kernel
theorem dX9_init_116 : decode cX9_init 116 = .ok (.ldc 57, 2) := by decide +kernel
theorem dX9_init_118 : decode cX9_init 118 = .ok (.invokevirtual 59, 3) := by decide +kernel
theorem dX9_init_121 : decode cX9_init 121 = .ok (.newarray .byte, 2) := by decide +kernel
theorem dX9_init_123 : decode cX9_init 123 = .ok (.astore_n 1, 1) := by decide +kernel
theorem dX9_init_124 : decode cX9_init 124 = .ok (.iconst 0, 1) := by decide +kernel
theorem dX9_init_125 : decode cX9_init 125 = .ok (.istore_n 2, 1) := by decide +kernel
theorem dX9_init_126 : decode cX9_init 126 = .ok (.iconst 0, 1) := by decide +kernel
theorem dX9_init_127 : decode cX9_init 127 = .ok (.istore_n 3, 1) := by decide +kernel
theorem dX9_init_128 : decode cX9_init 128 = .ok (.iload_n 3, 1) := by decide +kernel
theorem dX9_init_129 : decode cX9_init 129 = .ok (.aload_n 1, 1) := by decide +kernel
theorem dX9_init_130 : decode cX9_init 130 = .ok (.arraylength, 1) := by decide +kernel
theorem dX9_init_131 : decode cX9_init 131 = .ok (.if_icmp .ge 41, 3) := by decide +kernel
theorem dX9_init_134 : decode cX9_init 134 = .ok (.aload_n 1, 1) := by decide +kernel
theorem dX9_init_135 : decode cX9_init 135 = .ok (.iload_n 3, 1) := by decide +kernel
theorem dX9_init_136 : decode cX9_init 136 = .ok (.ldc 57, 2) := by decide +kernel
theorem dX9_init_138 : decode cX9_init 138 = .ok (.iload_n 3, 1) := by decide +kernel
theorem dX9_init_139 : decode cX9_init 139 = .ok (.invokevirtual 65, 3) := by decide +kernel
theorem dX9_init_142 : decode cX9_init 142 = .ok (.i2b, 1) := by decide +kernel
theorem dX9_init_143 : decode cX9_init 143 = .ok (.bastore, 1) := by decide +kernel
theorem dX9_init_144 : decode cX9_init 144 = .ok (.aload_n 1, 1) := by decide +kernel
theorem dX9_init_145 : decode cX9_init 145 = .ok (.iload_n 3, 1) := by decide +kernel
theorem dX9_init_146 : decode cX9_init 146 = .ok (.baload, 1) := by decide +kernel
theorem dX9_init_147 : decode cX9_init 147 = .ok (.bipush 32, 2) := by decide +kernel
theorem dX9_init_149 : decode cX9_init 149 = .ok (.if_icmp .ne 17, 3) := by decide +kernel
theorem dX9_init_152 : decode cX9_init 152 = .ok (.aload_n 0, 1) := by decide +kernel
theorem dX9_init_153 : decode cX9_init 153 = .ok (.aload_n 1, 1) := by decide +kernel
theorem dX9_init_154 : decode cX9_init 154 = .ok (.iload_n 2, 1) := by decide +kernel
theorem dX9_init_155 : decode cX9_init 155 = .ok (.iload_n 3, 1) := by decide +kernel
theorem dX9_init_156 : decode cX9_init 156 = .ok (.iload_n 2, 1) := by decide +kernel
theorem dX9_init_157 : decode cX9_init 157 = .ok (.isub, 1) := by decide +kernel
theorem dX9_init_158 : decode cX9_init 158 = .ok (.invokevirtual 69, 3) := by decide +kernel
theorem dX9_init_161 : decode cX9_init 161 = .ok (.pop, 1) := by decide +kernel
theorem dX9_init_162 : decode cX9_init 162 = .ok (.iload_n 3, 1) := by decide +kernel
theorem dX9_init_163 : decode cX9_init 163 = .ok (.iconst 1, 1) := by decide +kernel
theorem dX9_init_164 : decode cX9_init 164 = .ok (.iadd, 1) := by decide +kernel
theorem dX9_init_165 : decode cX9_init 165 = .ok (.istore_n 2, 1) := by decide +kernel
theorem dX9_init_166 : decode cX9_init 166 = .ok (.iinc 3 1, 3) := by decide +kernel
theorem dX9_init_169 : decode cX9_init 169 = .ok (.goto (-41), 3) := by decide +kernel
theorem dX9_init_172 : decode cX9_init 172 = .ok (.aload_n 0, 1) := by decide +kernel
theorem dX9_init_173 : decode cX9_init 173 = .ok (.aload_n 0, 1) := by decide +kernel
theorem dX9_init_174 : decode cX9_init 174 = .ok (.getfield 48, 3) := by decide +kernel
theorem dX9_init_177 : decode cX9_init 177 = .ok (.invokevirtual 73, 3) := by decide +kernel
theorem dX9_init_180 : decode cX9_init 180 = .ok (.checkcast 74, 3) := by decide +kernel
theorem dX9_init_183 : decode cX9_init 183 = .ok (.putfield 78, 3) := by decide +kernel
theorem dX9_init_186 : decode cX9_init 186 = .ok (.return_, 1) := by decide +kernel
theorem dX9_isDigit_0 : decode cX9_isDigit 0 = .ok (.iload_n 0, 1) := by decide +kernel
theorem dX9_isDigit_1 : decode cX9_isDigit 1 = .ok (.bipush 48, 2) := by decide +kernel
theorem dX9_isDigit_3 : decode cX9_isDigit 3 = .ok (.if_icmp .lt 13, 3) := by decide +kernel
theorem dX9_isDigit_6 : decode cX9_isDigit 6 = .ok (.iload_n 0, 1) := by decide +kernel
theorem dX9_isDigit_7 : decode cX9_isDigit 7 = .ok (.bipush 57, 2) := by decide +kernel
theorem dX9_isDigit_9 : decode cX9_isDigit 9 = .ok (.if_icmp .gt 7, 3) := by decide +kernel
theorem dX9_isDigit_12 : decode cX9_isDigit 12 = .ok (.iconst 1, 1) := by decide +kernel
theorem dX9_isDigit_13 : decode cX9_isDigit 13 = .ok (.goto 4, 3) := by decide +kernel
theorem dX9_isDigit_16 : decode cX9_isDigit 16 = .ok (.iconst 0, 1) := by decide +kernel
theorem dX9_isDigit_17 : decode cX9_isDigit 17 = .ok (.ireturn, 1) := by decide +kernel
theorem dX9_isLetter_0 : decode cX9_isLetter 0 = .ok (.iload_n 0, 1) := by decide +kernel
theorem dX9_isLetter_1 : decode cX9_isLetter 1 = .ok (.bipush 97, 2) := by decide +kernel
theorem dX9_isLetter_3 : decode cX9_isLetter 3 = .ok (.if_icmp .lt 9, 3) := by decide +kernel
theorem dX9_isLetter_6 : decode cX9_isLetter 6 = .ok (.iload_n 0, 1) := by decide +kernel
theorem dX9_isLetter_7 : decode cX9_isLetter 7 = .ok (.bipush 122, 2) := by decide +kernel
theorem dX9_isLetter_9 : decode cX9_isLetter 9 = .ok (.if_icmp .le 21, 3) := by decide +kernel
theorem dX9_isLetter_12 : decode cX9_isLetter 12 = .ok (.iload_n 0, 1) := by decide +kernel
theorem dX9_isLetter_13 : decode cX9_isLetter 13 = .ok (.bipush 65, 2) := by decide +kernel
theorem dX9_isLetter_15 : decode cX9_isLetter 15 = .ok (.if_icmp .lt 9, 3) := by decide +kernel
theorem dX9_isLetter_18 : decode cX9_isLetter 18 = .ok (.iload_n 0, 1) := by decide +kernel
theorem dX9_isLetter_19 : decode cX9_isLetter 19 = .ok (.bipush 90, 2) := by decide +kernel
theorem dX9_isLetter_21 : decode cX9_isLetter 21 = .ok (.if_icmp .le 9, 3) := by decide +kernel
theorem dX9_isLetter_24 : decode cX9_isLetter 24 = .ok (.iload_n 0, 1) := by decide +kernel
theorem dX9_isLetter_25 : decode cX9_isLetter 25 = .ok (.bipush 95, 2) := by decide +kernel
theorem dX9_isLetter_27 : decode cX9_isLetter 27 = .ok (.if_icmp .ne 7, 3) := by decide +kernel
theorem dX9_isLetter_30 : decode cX9_isLetter 30 = .ok (.iconst 1, 1) := by decide +kernel
theorem dX9_isLetter_31 : decode cX9_isLetter 31 = .ok (.goto 4, 3) := by decide +kernel
theorem dX9_isLetter_34 : decode cX9_isLetter 34 = .ok (.iconst 0, 1) := by decide +kernel
theorem dX9_isLetter_35 : decode cX9_isLetter 35 = .ok (.ireturn, 1) := by decide +kernel
theorem dX9_isSpelled_0 : decode cX9_isSpelled 0 = .ok (.aload_n 0, 1) := by decide +kernel
theorem dX9_isSpelled_1 : decode cX9_isSpelled 1 = .ok (.getfield 42, 3) := by decide +kernel
theorem dX9_isSpelled_4 : decode cX9_isSpelled 4 = .ok (.iload_n 1, 1) := by decide +kernel
theorem dX9_isSpelled_5 : decode cX9_isSpelled 5 = .ok (.iaload, 1) := by decide +kernel
theorem dX9_isSpelled_6 : decode cX9_isSpelled 6 = .ok (.iload 4, 2) := by decide +kernel
theorem dX9_isSpelled_8 : decode cX9_isSpelled 8 = .ok (.if_icmp .eq 5, 3) := by decide +kernel
theorem dX9_isSpelled_11 : decode cX9_isSpelled 11 = .ok (.iconst 0, 1) := by decide +kernel
theorem dX9_isSpelled_12 : decode cX9_isSpelled 12 = .ok (.ireturn, 1) := by decide +kernel
theorem dX9_isSpelled_13 : decode cX9_isSpelled 13 = .ok (.iconst 0, 1) := by decide +kernel
theorem dX9_isSpelled_14 : decode cX9_isSpelled 14 = .ok (.istore 5, 2) := by decide +kernel
theorem dX9_isSpelled_16 : decode cX9_isSpelled 16 = .ok (.iload 5, 2) := by decide +kernel
theorem dX9_isSpelled_18 : decode cX9_isSpelled 18 = .ok (.iload 4, 2) := by decide +kernel
theorem dX9_isSpelled_20 : decode cX9_isSpelled 20 = .ok (.if_icmp .ge 34, 3) := by decide +kernel
theorem dX9_isSpelled_23 : decode cX9_isSpelled 23 = .ok (.aload_n 0, 1) := by decide +kernel
theorem dX9_isSpelled_24 : decode cX9_isSpelled 24 = .ok (.getfield 36, 3) := by decide +kernel
theorem dX9_isSpelled_27 : decode cX9_isSpelled 27 = .ok (.aload_n 0, 1) := by decide +kernel
theorem dX9_isSpelled_28 : decode cX9_isSpelled 28 = .ok (.getfield 39, 3) := by decide +kernel
theorem dX9_isSpelled_31 : decode cX9_isSpelled 31 = .ok (.iload_n 1, 1) := by decide +kernel
theorem dX9_isSpelled_32 : decode cX9_isSpelled 32 = .ok (.iaload, 1) := by decide +kernel
theorem dX9_isSpelled_33 : decode cX9_isSpelled 33 = .ok (.iload 5, 2) := by decide +kernel
theorem dX9_isSpelled_35 : decode cX9_isSpelled 35 = .ok (.iadd, 1) := by decide +kernel
theorem dX9_isSpelled_36 : decode cX9_isSpelled 36 = .ok (.baload, 1) := by decide +kernel
theorem dX9_isSpelled_37 : decode cX9_isSpelled 37 = .ok (.aload_n 2, 1) := by decide +kernel
theorem dX9_isSpelled_38 : decode cX9_isSpelled 38 = .ok (.iload_n 3, 1) := by decide +kernel
theorem dX9_isSpelled_39 : decode cX9_isSpelled 39 = .ok (.iload 5, 2) := by decide +kernel
theorem dX9_isSpelled_41 : decode cX9_isSpelled 41 = .ok (.iadd, 1) := by decide +kernel
theorem dX9_isSpelled_42 : decode cX9_isSpelled 42 = .ok (.baload, 1) := by decide +kernel
theorem dX9_isSpelled_43 : decode cX9_isSpelled 43 = .ok (.if_icmp .eq 5, 3) := by decide +kernel
theorem dX9_isSpelled_46 : decode cX9_isSpelled 46 = .ok (.iconst 0, 1) := by decide +kernel
theorem dX9_isSpelled_47 : decode cX9_isSpelled 47 = .ok (.ireturn, 1) := by decide +kernel
theorem dX9_isSpelled_48 : decode cX9_isSpelled 48 = .ok (.iinc 5 1, 3) := by decide +kernel
theorem dX9_isSpelled_51 : decode cX9_isSpelled 51 = .ok (.goto (-35), 3) := by decide +kernel
theorem dX9_isSpelled_54 : decode cX9_isSpelled 54 = .ok (.iconst 1, 1) := by decide +kernel
theorem dX9_isSpelled_55 : decode cX9_isSpelled 55 = .ok (.ireturn, 1) := by decide +kernel
theorem dX9_kind_0 : decode cX9_kind 0 = .ok (.aload_n 0, 1) := by decide +kernel
theorem dX9_kind_1 : decode cX9_kind 1 = .ok (.getfield 9, 3) := by decide +kernel
theorem dX9_kind_4 : decode cX9_kind 4 = .ok (.aload_n 0, 1) := by decide +kernel
theorem dX9_kind_5 : decode cX9_kind 5 = .ok (.getfield 106, 3) := by decide +kernel
theorem dX9_kind_8 : decode cX9_kind 8 = .ok (.iaload, 1) := by decide +kernel
theorem dX9_kind_9 : decode cX9_kind 9 = .ok (.ireturn, 1) := by decide +kernel
theorem dX9_kindBehind_0 : decode cX9_kindBehind 0 = .ok (.aload_n 0, 1) := by decide +kernel
theorem dX9_kindBehind_1 : decode cX9_kindBehind 1 = .ok (.getfield 9, 3) := by decide +kernel
theorem dX9_kindBehind_4 : decode cX9_kindBehind 4 = .ok (.aload_n 0, 1) := by decide +kernel
theorem dX9_kindBehind_5 : decode cX9_kindBehind 5 = .ok (.getfield 106, 3) := by decide +kernel
theorem dX9_kindBehind_8 : decode cX9_kindBehind 8 = .ok (.iload_n 1, 1) := by decide +kernel
theorem dX9_kindBehind_9 : decode cX9_kindBehind 9 = .ok (.iadd, 1) := by decide +kernel
theorem dX9_kindBehind_10 : decode cX9_kindBehind 10 = .ok (.aload_n 0, 1) := by decide +kernel
theorem dX9_kindBehind_11 : decode cX9_kindBehind 11 = .ok (.getfield 92, 3) := by decide +kernel
theorem dX9_kindBehind_14 : decode cX9_kindBehind 14 = .ok (.iconst 1, 1) := by decide +kernel
theorem dX9_kindBehind_15 : decode cX9_kindBehind 15 = .ok (.isub, 1) := by decide +kernel
theorem dX9_kindBehind_16 : decode cX9_kindBehind 16 = .ok (.invokestatic 109, 3) := by decide +kernel
theorem dX9_kindBehind_19 : decode cX9_kindBehind 19 = .ok (.iaload, 1) := by decide +kernel
theorem dX9_kindBehind_20 : decode cX9_kindBehind 20 = .ok (.ireturn, 1) := by decide +kernel
theorem dX9_nameOf_0 : decode cX9_nameOf 0 = .ok (.iload_n 3, 1) := by decide +kernel
theorem dX9_nameOf_1 : decode cX9_nameOf 1 = .ok (.istore 4, 2) := by decide +kernel
theorem dX9_nameOf_3 : decode cX9_nameOf 3 = .ok (.iload_n 2, 1) := by decide +kernel
theorem dX9_nameOf_4 : decode cX9_nameOf 4 = .ok (.istore 5, 2) := by decide +kernel
theorem dX9_nameOf_6 : decode cX9_nameOf 6 = .ok (.iload 5, 2) := by decide +kernel
theorem dX9_nameOf_8 : decode cX9_nameOf 8 = .ok (.iload_n 2, 1) := by decide +kernel
theorem dX9_nameOf_9 : decode cX9_nameOf 9 = .ok (.iload_n 3, 1) := by decide +kernel
theorem dX9_nameOf_10 : decode cX9_nameOf 10 = .ok (.iadd, 1) := by decide +kernel
theorem dX9_nameOf_11 : decode cX9_nameOf 11 = .ok (.if_icmp .ge 21, 3) := by decide +kernel
theorem dX9_nameOf_14 : decode cX9_nameOf 14 = .ok (.iload 4, 2) := by decide +kernel
theorem dX9_nameOf_16 : decode cX9_nameOf 16 = .ok (.bipush 31, 2) := by decide +kernel
theorem dX9_nameOf_18 : decode cX9_nameOf 18 = .ok (.imul, 1) := by decide +kernel
theorem dX9_nameOf_19 : decode cX9_nameOf 19 = .ok (.aload_n 1, 1) := by decide +kernel
theorem dX9_nameOf_20 : decode cX9_nameOf 20 = .ok (.iload 5, 2) := by decide +kernel
theorem dX9_nameOf_22 : decode cX9_nameOf 22 = .ok (.baload, 1) := by decide +kernel
theorem dX9_nameOf_23 : decode cX9_nameOf 23 = .ok (.iadd, 1) := by decide +kernel
theorem dX9_nameOf_24 : decode cX9_nameOf 24 = .ok (.istore 4, 2) := by decide +kernel
theorem dX9_nameOf_26 : decode cX9_nameOf 26 = .ok (.iinc 5 1, 3) := by decide +kernel
theorem dX9_nameOf_29 : decode cX9_nameOf 29 = .ok (.goto (-23), 3) := by decide +kernel
theorem dX9_nameOf_32 : decode cX9_nameOf 32 = .ok (.iload 4, 2) := by decide +kernel
theorem dX9_nameOf_34 : decode cX9_nameOf 34 = .ok (.sipush 255, 3) := by decide +kernel
theorem dX9_nameOf_37 : decode cX9_nameOf 37 = .ok (.iand, 1) := by decide +kernel
theorem dX9_nameOf_38 : decode cX9_nameOf 38 = .ok (.istore 5, 2) := by decide +kernel
theorem dX9_nameOf_40 : decode cX9_nameOf 40 = .ok (.aload_n 0, 1) := by decide +kernel
theorem dX9_nameOf_41 : decode cX9_nameOf 41 = .ok (.getfield 48, 3) := by decide +kernel
theorem dX9_nameOf_44 : decode cX9_nameOf 44 = .ok (.iload 5, 2) := by decide +kernel
theorem dX9_nameOf_46 : decode cX9_nameOf 46 = .ok (.iaload, 1) := by decide +kernel
theorem dX9_nameOf_47 : decode cX9_nameOf 47 = .ok (.istore 6, 2) := by decide +kernel
theorem dX9_nameOf_49 : decode cX9_nameOf 49 = .ok (.iconst 0, 1) := by decide +kernel
theorem dX9_nameOf_50 : decode cX9_nameOf 50 = .ok (.istore 7, 2) := by decide +kernel
theorem dX9_nameOf_52 : decode cX9_nameOf 52 = .ok (.iload 7, 2) := by decide +kernel
theorem dX9_nameOf_54 : decode cX9_nameOf 54 = .ok (.sipush 3020, 3) := by decide +kernel
theorem dX9_nameOf_57 : decode cX9_nameOf 57 = .ok (.if_icmp .ge 38, 3) := by decide +kernel
theorem dX9_nameOf_60 : decode cX9_nameOf 60 = .ok (.iload 6, 2) := by decide +kernel
theorem dX9_nameOf_62 : decode cX9_nameOf 62 = .ok (.ifCond .lt 33, 3) := by decide +kernel
theorem dX9_nameOf_65 : decode cX9_nameOf 65 = .ok (.aload_n 0, 1) := by decide +kernel
theorem dX9_nameOf_66 : decode cX9_nameOf 66 = .ok (.iload 6, 2) := by decide +kernel
theorem dX9_nameOf_68 : decode cX9_nameOf 68 = .ok (.aload_n 1, 1) := by decide +kernel
theorem dX9_nameOf_69 : decode cX9_nameOf 69 = .ok (.iload_n 2, 1) := by decide +kernel
theorem dX9_nameOf_70 : decode cX9_nameOf 70 = .ok (.iload_n 3, 1) := by decide +kernel
theorem dX9_nameOf_71 : decode cX9_nameOf 71 = .ok (.invokevirtual 154, 3) := by decide +kernel
theorem dX9_nameOf_74 : decode cX9_nameOf 74 = .ok (.ifCond .eq 6, 3) := by decide +kernel
theorem dX9_nameOf_77 : decode cX9_nameOf 77 = .ok (.iload 6, 2) := by decide +kernel
theorem dX9_nameOf_79 : decode cX9_nameOf 79 = .ok (.ireturn, 1) := by decide +kernel
theorem dX9_nameOf_80 : decode cX9_nameOf 80 = .ok (.aload_n 0, 1) := by decide +kernel
theorem dX9_nameOf_81 : decode cX9_nameOf 81 = .ok (.getfield 45, 3) := by decide +kernel
theorem dX9_nameOf_84 : decode cX9_nameOf 84 = .ok (.iload 6, 2) := by decide +kernel
theorem dX9_nameOf_86 : decode cX9_nameOf 86 = .ok (.iaload, 1) := by decide +kernel
theorem dX9_nameOf_87 : decode cX9_nameOf 87 = .ok (.istore 6, 2) := by decide +kernel
theorem dX9_nameOf_89 : decode cX9_nameOf 89 = .ok (.iinc 7 1, 3) := by decide +kernel
theorem dX9_nameOf_92 : decode cX9_nameOf 92 = .ok (.goto (-40), 3) := by decide +kernel
theorem dX9_nameOf_95 : decode cX9_nameOf 95 = .ok (.aload_n 0, 1) := by decide +kernel
theorem dX9_nameOf_96 : decode cX9_nameOf 96 = .ok (.iload 5, 2) := by decide +kernel
theorem dX9_nameOf_98 : decode cX9_nameOf 98 = .ok (.aload_n 1, 1) := by decide +kernel
theorem dX9_nameOf_99 : decode cX9_nameOf 99 = .ok (.iload_n 2, 1) := by decide +kernel
theorem dX9_nameOf_100 : decode cX9_nameOf 100 = .ok (.iload_n 3, 1) := by decide +kernel
theorem dX9_nameOf_101 : decode cX9_nameOf 101 = .ok (.invokevirtual 158, 3) := by decide +kernel
theorem dX9_nameOf_104 : decode cX9_nameOf 104 = .ok (.ireturn, 1) := by decide +kernel
