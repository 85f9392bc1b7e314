theorem dX10_addPart_0 : decode cX10_addPart 0 = .ok (.iload_n 1, 1) := by decide +kernel
theorem dX10_addPart_1 : decode cX10_addPart 1 = .ok (.bipush 12, 2) := by decide +kernel
theorem dX10_addPart_3 : decode cX10_addPart 3 = .ok (.imul, 1) := by decide +kernel
theorem dX10_addPart_4 : decode cX10_addPart 4 = .ok (.aload_n 0, 1) := by decide +kernel
theorem dX10_addPart_5 : decode cX10_addPart 5 = .ok (.getfield 43, 3) := by decide +kernel
theorem dX10_addPart_8 : decode cX10_addPart 8 = .ok (.iload_n 1, 1) := by decide +kernel
theorem dX10_addPart_9 : decode cX10_addPart 9 = .ok (.iaload, 1) := by decide +kernel
theorem dX10_addPart_10 : decode cX10_addPart 10 = .ok (.iadd, 1) := by decide +kernel
theorem dX10_addPart_11 : decode cX10_addPart 11 = .ok (.istore 4, 2) := by decide +kernel
theorem dX10_addPart_13 : decode cX10_addPart 13 = .ok (.aload_n 0, 1) := by decide +kernel
theorem dX10_addPart_14 : decode cX10_addPart 14 = .ok (.getfield 46, 3) := by decide +kernel
theorem dX10_addPart_17 : decode cX10_addPart 17 = .ok (.iload 4, 2) := by decide +kernel
theorem dX10_addPart_19 : decode cX10_addPart 19 = .ok (.iload_n 2, 1) := by decide +kernel
theorem dX10_addPart_20 : decode cX10_addPart 20 = .ok (.iastore, 1) := by decide +kernel
theorem dX10_addPart_21 : decode cX10_addPart 21 = .ok (.aload_n 0, 1) := by decide +kernel
theorem dX10_addPart_22 : decode cX10_addPart 22 = .ok (.getfield 49, 3) := by decide +kernel
theorem dX10_addPart_25 : decode cX10_addPart 25 = .ok (.iload 4, 2) := by decide +kernel
theorem dX10_addPart_27 : decode cX10_addPart 27 = .ok (.iload_n 3, 1) := by decide +kernel
theorem dX10_addPart_28 : decode cX10_addPart 28 = .ok (.iastore, 1) := by decide +kernel
theorem dX10_addPart_29 : decode cX10_addPart 29 = .ok (.aload_n 0, 1) := by decide +kernel
theorem dX10_addPart_30 : decode cX10_addPart 30 = .ok (.getfield 43, 3) := by decide +kernel
theorem dX10_addPart_33 : decode cX10_addPart 33 = .ok (.iload_n 1, 1) := by decide +kernel
theorem dX10_addPart_34 : decode cX10_addPart 34 = .ok (.dup2, 1) := by decide +kernel
theorem dX10_addPart_35 : decode cX10_addPart 35 = .ok (.iaload, 1) := by decide +kernel
theorem dX10_addPart_36 : decode cX10_addPart 36 = .ok (.iconst 1, 1) := by decide +kernel
theorem dX10_addPart_37 : decode cX10_addPart 37 = .ok (.iadd, 1) := by decide +kernel
theorem dX10_addPart_38 : decode cX10_addPart 38 = .ok (.iastore, 1) := by decide +kernel
theorem dX10_addPart_39 : decode cX10_addPart 39 = .ok (.return_, 1) := by decide +kernel
theorem dX10_addShape_0 : decode cX10_addShape 0 = .ok (.aload_n 0, 1) := by decide +kernel
theorem dX10_addShape_1 : decode cX10_addShape 1 = .ok (.getfield 55, 3) := by decide +kernel
theorem dX10_addShape_4 : decode cX10_addShape 4 = .ok (.istore_n 3, 1) := by decide +kernel
theorem dX10_addShape_5 : decode cX10_addShape 5 = .ok (.aload_n 0, 1) := by decide +kernel
theorem dX10_addShape_6 : decode cX10_addShape 6 = .ok (.getfield 34, 3) := by decide +kernel
theorem dX10_addShape_9 : decode cX10_addShape 9 = .ok (.iload_n 3, 1) := by decide +kernel
theorem dX10_addShape_10 : decode cX10_addShape 10 = .ok (.iload_n 1, 1) := by decide +kernel
theorem dX10_addShape_11 : decode cX10_addShape 11 = .ok (.iastore, 1) := by decide +kernel
theorem dX10_addShape_12 : decode cX10_addShape 12 = .ok (.aload_n 0, 1) := by decide +kernel
theorem dX10_addShape_13 : decode cX10_addShape 13 = .ok (.getfield 37, 3) := by decide +kernel
theorem dX10_addShape_16 : decode cX10_addShape 16 = .ok (.iload_n 3, 1) := by decide +kernel
theorem dX10_addShape_17 : decode cX10_addShape 17 = .ok (.iconst 0, 1) := by decide +kernel
theorem dX10_addShape_18 : decode cX10_addShape 18 = .ok (.iastore, 1) := by decide +kernel
theorem dX10_addShape_19 : decode cX10_addShape 19 = .ok (.aload_n 0, 1) := by decide +kernel
theorem dX10_addShape_20 : decode cX10_addShape 20 = .ok (.getfield 9, 3) := by decide +kernel
theorem dX10_addShape_23 : decode cX10_addShape 23 = .ok (.iconst 4, 1) := by decide +kernel
theorem dX10_addShape_24 : decode cX10_addShape 24 = .ok (.iload_n 3, 1) := by decide +kernel
theorem dX10_addShape_25 : decode cX10_addShape 25 = .ok (.iadd, 1) := by decide +kernel
theorem dX10_addShape_26 : decode cX10_addShape 26 = .ok (.iload_n 2, 1) := by decide +kernel
theorem dX10_addShape_27 : decode cX10_addShape 27 = .ok (.iastore, 1) := by decide +kernel
theorem dX10_addShape_28 : decode cX10_addShape 28 = .ok (.aload_n 0, 1) := by decide +kernel
theorem dX10_addShape_29 : decode cX10_addShape 29 = .ok (.dup, 1) := by decide +kernel
theorem dX10_addShape_30 : decode cX10_addShape 30 = .ok (.getfield 55, 3) := by decide +kernel
theorem dX10_addShape_33 : decode cX10_addShape 33 = .ok (.iconst 1, 1) := by decide +kernel
theorem dX10_addShape_34 : decode cX10_addShape 34 = .ok (.iadd, 1) := by decide +kernel
theorem dX10_addShape_35 : decode cX10_addShape 35 = .ok (.putfield 55, 3) := by decide +kernel
theorem dX10_addShape_38 : decode cX10_addShape 38 = .ok (.iload_n 3, 1) := by decide +kernel
theorem dX10_addShape_39 : decode cX10_addShape 39 = .ok (.ireturn, 1) := by decide +kernel
theorem dX10_addVariant_0 : decode cX10_addVariant 0 = .ok (.iload_n 1, 1) := by decide +kernel
theorem dX10_addVariant_1 : decode cX10_addVariant 1 = .ok (.bipush 12, 2) := by decide +kernel
theorem dX10_addVariant_3 : decode cX10_addVariant 3 = .ok (.imul, 1) := by decide +kernel
theorem dX10_addVariant_4 : decode cX10_addVariant 4 = .ok (.aload_n 0, 1) := by decide +kernel
theorem dX10_addVariant_5 : decode cX10_addVariant 5 = .ok (.getfield 37, 3) := by decide +kernel
theorem dX10_addVariant_8 : decode cX10_addVariant 8 = .ok (.iload_n 1, 1) := by decide +kernel
theorem dX10_addVariant_9 : decode cX10_addVariant 9 = .ok (.iaload, 1) := by decide +kernel
theorem dX10_addVariant_10 : decode cX10_addVariant 10 = .ok (.iadd, 1) := by decide +kernel
theorem dX10_addVariant_11 : decode cX10_addVariant 11 = .ok (.istore_n 3, 1) := by decide +kernel
theorem dX10_addVariant_12 : decode cX10_addVariant 12 = .ok (.aload_n 0, 1) := by decide +kernel
theorem dX10_addVariant_13 : decode cX10_addVariant 13 = .ok (.getfield 40, 3) := by decide +kernel
theorem dX10_addVariant_16 : decode cX10_addVariant 16 = .ok (.iload_n 3, 1) := by decide +kernel
theorem dX10_addVariant_17 : decode cX10_addVariant 17 = .ok (.iload_n 2, 1) := by decide +kernel
theorem dX10_addVariant_18 : decode cX10_addVariant 18 = .ok (.iastore, 1) := by decide +kernel
theorem dX10_addVariant_19 : decode cX10_addVariant 19 = .ok (.aload_n 0, 1) := by decide +kernel
theorem dX10_addVariant_20 : decode cX10_addVariant 20 = .ok (.getfield 43, 3) := by decide +kernel
theorem dX10_addVariant_23 : decode cX10_addVariant 23 = .ok (.iload_n 3, 1) := by decide +kernel
theorem dX10_addVariant_24 : decode cX10_addVariant 24 = .ok (.iconst 0, 1) := by decide +kernel
theorem dX10_addVariant_25 : decode cX10_addVariant 25 = .ok (.iastore, 1) := by decide +kernel
theorem dX10_addVariant_26 : decode cX10_addVariant 26 = .ok (.aload_n 0, 1) := by decide +kernel
theorem dX10_addVariant_27 : decode cX10_addVariant 27 = .ok (.getfield 37, 3) := by decide +kernel
theorem dX10_addVariant_30 : decode cX10_addVariant 30 = .ok (.iload_n 1, 1) := by decide +kernel
theorem dX10_addVariant_31 : decode cX10_addVariant 31 = .ok (.dup2, 1) := by decide +kernel
theorem dX10_addVariant_32 : decode cX10_addVariant 32 = .ok (.iaload, 1) := by decide +kernel
theorem dX10_addVariant_33 : decode cX10_addVariant 33 = .ok (.iconst 1, 1) := by decide +kernel
theorem dX10_addVariant_34 : decode cX10_addVariant 34 = .ok (.iadd, 1) := by decide +kernel
theorem dX10_addVariant_35 : decode cX10_addVariant 35 = .ok (.iastore, 1) := by decide +kernel
theorem dX10_addVariant_36 : decode cX10_addVariant 36 = .ok (.iload_n 3, 1) := by decide +kernel
theorem dX10_addVariant_37 : decode cX10_addVariant 37 = .ok (.ireturn, 1) := by decide +kernel
theorem dX10_boxOf_0 : decode cX10_boxOf 0 = .ok (.aload_n 0, 1) := by decide +kernel
theorem dX10_boxOf_1 : decode cX10_boxOf 1 = .ok (.getfield 25, 3) := by decide +kernel
theorem dX10_boxOf_4 : decode cX10_boxOf 4 = .ok (.iload_n 1, 1) := by decide +kernel
theorem dX10_boxOf_5 : decode cX10_boxOf 5 = .ok (.iaload, 1) := by decide +kernel
theorem dX10_boxOf_6 : decode cX10_boxOf 6 = .ok (.ifCond .ne 15, 3) := by decide +kernel
theorem dX10_boxOf_9 : decode cX10_boxOf 9 = .ok (.aload_n 0, 1) := by decide +kernel
theorem dX10_boxOf_10 : decode cX10_boxOf 10 = .ok (.getfield 25, 3) := by decide +kernel
theorem dX10_boxOf_13 : decode cX10_boxOf 13 = .ok (.iload_n 1, 1) := by decide +kernel
theorem dX10_boxOf_14 : decode cX10_boxOf 14 = .ok (.aload_n 0, 1) := by decide +kernel
theorem dX10_boxOf_15 : decode cX10_boxOf 15 = .ok (.iconst 4, 1) := by decide +kernel
theorem dX10_boxOf_16 : decode cX10_boxOf 16 = .ok (.iload_n 1, 1) := by decide +kernel
theorem dX10_boxOf_17 : decode cX10_boxOf 17 = .ok (.invokevirtual 62, 3) := by decide +kernel
theorem dX10_boxOf_20 : decode cX10_boxOf 20 = .ok (.iastore, 1) := by decide +kernel
theorem dX10_boxOf_21 : decode cX10_boxOf 21 = .ok (.aload_n 0, 1) := by decide +kernel
theorem dX10_boxOf_22 : decode cX10_boxOf 22 = .ok (.getfield 25, 3) := by decide +kernel
theorem dX10_boxOf_25 : decode cX10_boxOf 25 = .ok (.iload_n 1, 1) := by decide +kernel
theorem dX10_boxOf_26 : decode cX10_boxOf 26 = .ok (.iaload, 1) := by decide +kernel
theorem dX10_boxOf_27 : decode cX10_boxOf 27 = .ok (.ireturn, 1) := by decide +kernel
theorem dX10_clear_0 : decode cX10_clear 0 = .ok (.aload_n 0, 1) := by decide +kernel
theorem dX10_clear_1 : decode cX10_clear 1 = .ok (.iconst 0, 1) := by decide +kernel
theorem dX10_clear_2 : decode cX10_clear 2 = .ok (.putfield 55, 3) := by decide +kernel
theorem dX10_clear_5 : decode cX10_clear 5 = .ok (.aload_n 0, 1) := by decide +kernel
theorem dX10_clear_6 : decode cX10_clear 6 = .ok (.iconst 0, 1) := by decide +kernel
theorem dX10_clear_7 : decode cX10_clear 7 = .ok (.putfield 59, 3) := by decide +kernel
theorem dX10_clear_10 : decode cX10_clear 10 = .ok (.iconst 0, 1) := by decide +kernel
theorem dX10_clear_11 : decode cX10_clear 11 = .ok (.istore_n 1, 1) := by decide +kernel
theorem dX10_clear_12 : decode cX10_clear 12 = .ok (.iload_n 1, 1) := by decide +kernel
theorem dX10_clear_13 : decode cX10_clear 13 = .ok (.bipush 34, 2) := by decide +kernel
theorem dX10_clear_15 : decode cX10_clear 15 = .ok (.if_icmp .ge 42, 3) := by decide +kernel
theorem dX10_clear_18 : decode cX10_clear 18 = .ok (.aload_n 0, 1) := by decide +kernel
theorem dX10_clear_19 : decode cX10_clear 19 = .ok (.iconst 0, 1) := by decide +kernel
theorem dX10_clear_20 : decode cX10_clear 20 = .ok (.iconst 0, 1) := by decide +kernel
theorem dX10_clear_21 : decode cX10_clear 21 = .ok (.invokevirtual 62, 3) := by decide +kernel
theorem dX10_clear_24 : decode cX10_clear 24 = .ok (.pop, 1) := by decide +kernel
theorem dX10_clear_25 : decode cX10_clear 25 = .ok (.aload_n 0, 1) := by decide +kernel
theorem dX10_clear_26 : decode cX10_clear 26 = .ok (.getfield 18, 3) := by decide +kernel
theorem dX10_clear_29 : decode cX10_clear 29 = .ok (.iload_n 1, 1) := by decide +kernel
theorem dX10_clear_30 : decode cX10_clear 30 = .ok (.iload_n 1, 1) := by decide +kernel
theorem dX10_clear_31 : decode cX10_clear 31 = .ok (.iconst 1, 1) := by decide +kernel
theorem dX10_clear_32 : decode cX10_clear 32 = .ok (.if_icmp .eq 13, 3) := by decide +kernel
theorem dX10_clear_35 : decode cX10_clear 35 = .ok (.iload_n 1, 1) := by decide +kernel
theorem dX10_clear_36 : decode cX10_clear 36 = .ok (.iconst 2, 1) := by decide +kernel
theorem dX10_clear_37 : decode cX10_clear 37 = .ok (.if_icmp .eq 8, 3) := by decide +kernel
theorem dX10_clear_40 : decode cX10_clear 40 = .ok (.iload_n 1, 1) := by decide +kernel
theorem dX10_clear_41 : decode cX10_clear 41 = .ok (.iconst 3, 1) := by decide +kernel
theorem dX10_clear_42 : decode cX10_clear 42 = .ok (.if_icmp .ne 7, 3) := by decide +kernel
theorem dX10_clear_45 : decode cX10_clear 45 = .ok (.iconst 1, 1) := by decide +kernel
theorem dX10_clear_46 : decode cX10_clear 46 = .ok (.goto 4, 3) := by decide +kernel
theorem dX10_clear_49 : decode cX10_clear 49 = .ok (.iconst 0, 1) := by decide +kernel
theorem dX10_clear_50 : decode cX10_clear 50 = .ok (.iastore, 1) := by decide +kernel
theorem dX10_clear_51 : decode cX10_clear 51 = .ok (.iinc 1 1, 3) := by decide +kernel
theorem dX10_clear_54 : decode cX10_clear 54 = .ok (.goto (-42), 3) := by decide +kernel
theorem dX10_clear_57 : decode cX10_clear 57 = .ok (.aload_n 0, 1) := by decide +kernel
theorem dX10_clear_58 : decode cX10_clear 58 = .ok (.getfield 9, 3) := by decide +kernel
theorem dX10_clear_61 : decode cX10_clear 61 = .ok (.iconst 3, 1) := by decide +kernel
theorem dX10_clear_62 : decode cX10_clear 62 = .ok (.iconst 1, 1) := by decide +kernel
theorem dX10_clear_63 : decode cX10_clear 63 = .ok (.iastore, 1) := by decide +kernel
theorem dX10_clear_64 : decode cX10_clear 64 = .ok (.aload_n 0, 1) := by decide +kernel
theorem dX10_clear_65 : decode cX10_clear 65 = .ok (.getfield 21, 3) := by decide +kernel
theorem dX10_clear_68 : decode cX10_clear 68 = .ok (.iconst 3, 1) := by decide +kernel
theorem dX10_clear_69 : decode cX10_clear 69 = .ok (.iconst 1, 1) := by decide +kernel
theorem dX10_clear_70 : decode cX10_clear 70 = .ok (.bastore, 1) := by decide +kernel
theorem dX10_clear_71 : decode cX10_clear 71 = .ok (.return_, 1) := by decide +kernel
theorem dX10_init_0 : decode cX10_init 0 = .ok (.aload_n 0, 1) := by decide +kernel
theorem dX10_init_1 : decode cX10_init 1 = .ok (.invokespecial 3, 3) := by decide +kernel
theorem dX10_init_4 : decode cX10_init 4 = .ok (.aload_n 0, 1) := by decide +kernel
theorem dX10_init_5 : decode cX10_init 5 = .ok (.sipush 3040, 3) := by decide +kernel
theorem dX10_init_8 : decode cX10_init 8 = .ok (.newarray .int, 2) := by decide +kernel
theorem dX10_init_10 : decode cX10_init 10 = .ok (.putfield 9, 3) := by decide +kernel
theorem dX10_init_13 : decode cX10_init 13 = .ok (.aload_n 0, 1) := by decide +kernel
theorem dX10_init_14 : decode cX10_init 14 = .ok (.sipush 3040, 3) := by decide +kernel
theorem dX10_init_17 : decode cX10_init 17 = .ok (.newarray .int, 2) := by decide +kernel
theorem dX10_init_19 : decode cX10_init 19 = .ok (.putfield 15, 3) := by decide +kernel
theorem dX10_init_22 : decode cX10_init 22 = .ok (.aload_n 0, 1) := by decide +kernel
theorem dX10_init_23 : decode cX10_init 23 = .ok (.sipush 3040, 3) := by decide +kernel
theorem dX10_init_26 : decode cX10_init 26 = .ok (.newarray .int, 2) := by decide +kernel
theorem dX10_init_28 : decode cX10_init 28 = .ok (.putfield 18, 3) := by decide +kernel
theorem dX10_init_31 : decode cX10_init 31 = .ok (.aload_n 0, 1) := by decide +kernel
theorem dX10_init_32 : decode cX10_init 32 = .ok (.sipush 3040, 3) := by decide +kernel
theorem dX10_init_35 : decode cX10_init 35 = .ok (.newarray .boolean, 2) := by decide +kernel
theorem dX10_init_37 : decode cX10_init 37 = .ok (.putfield 21, 3) := by decide +kernel
theorem dX10_init_40 : decode cX10_init 40 = .ok (.aload_n 0, 1) := by decide +kernel
theorem dX10_init_41 : decode cX10_init 41 = .ok (.sipush 3040, 3) := by decide +kernel
theorem dX10_init_44 : decode cX10_init 44 = .ok (.newarray .int, 2) := by decide +kernel
theorem dX10_init_46 : decode cX10_init 46 = .ok (.putfield 25, 3) := by decide +kernel
theorem dX10_init_49 : decode cX10_init 49 = .ok (.aload_n 0, 1) := by decide +kernel
theorem dX10_init_50 : decode cX10_init 50 = .ok (.sipush 3040, 3) := by decide +kernel
theorem dX10_init_53 : decode cX10_init 53 = .ok (.newarray .int, 2) := by decide +kernel
theorem dX10_init_55 : decode cX10_init 55 = .ok (.putfield 28, 3) := by decide +kernel
theorem dX10_init_58 : decode cX10_init 58 = .ok (.aload_n 0, 1) := by decide +kernel
theorem dX10_init_59 : decode cX10_init 59 = .ok (.sipush 3040, 3) := by decide +kernel
theorem dX10_init_62 : decode cX10_init 62 = .ok (.newarray .int, 2) := by decide +kernel
theorem dX10_init_64 : decode cX10_init 64 = .ok (.putfield 31, 3) := by decide +kernel
theorem dX10_init_67 : decode cX10_init 67 = .ok (.aload_n 0, 1) := by decide +kernel
theorem dX10_init_68 : decode cX10_init 68 = .ok (.bipush 30, 2) := by decide +kernel
theorem dX10_init_70 : decode cX10_init 70 = .ok (.newarray .int, 2) := by decide +kernel
theorem dX10_init_72 : decode cX10_init 72 = .ok (.putfield 34, 3) := by decide +kernel
theorem dX10_init_75 : decode cX10_init 75 = .ok (.aload_n 0, 1) := by decide +kernel
theorem dX10_init_76 : decode cX10_init 76 = .ok (.bipush 30, 2) := by decide +kernel
theorem dX10_init_78 : decode cX10_init 78 = .ok (.newarray .int, 2) := by decide +kernel
theorem dX10_init_80 : decode cX10_init 80 = .ok (.putfield 37, 3) := by decide +kernel
theorem dX10_init_83 : decode cX10_init 83 = .ok (.aload_n 0, 1) := by decide +kernel
theorem dX10_init_84 : decode cX10_init 84 = .ok (.sipush 360, 3) := by decide +kernel
theorem dX10_init_87 : decode cX10_init 87 = .ok (.newarray .int, 2) := by decide +kernel
theorem dX10_init_89 : decode cX10_init 89 = .ok (.putfield 40, 3) := by decide +kernel
theorem dX10_init_92 : decode cX10_init 92 = .ok (.aload_n 0, 1) := by decide +kernel
theorem dX10_init_93 : decode cX10_init 93 = .ok (.sipush 360, 3) := by decide +kernel
theorem dX10_init_96 : decode cX10_init 96 = .ok (.newarray .int, 2) := by decide +kernel
theorem dX10_init_98 : decode cX10_init 98 = .ok (.putfield 43, 3) := by decide +kernel
theorem dX10_init_101 : decode cX10_init 101 = .ok (.aload_n 0, 1) := by decide +kernel
theorem dX10_init_102 : decode cX10_init 102 = .ok (.sipush 4320, 3) := by decide +kernel
theorem dX10_init_105 : decode cX10_init 105 = .ok (.newarray .int, 2) := by decide +kernel
theorem dX10_init_107 : decode cX10_init 107 = .ok (.putfield 46, 3) := by decide +kernel
theorem dX10_init_110 : decode cX10_init 110 = .ok (.aload_n 0, 1) := by decide +kernel
theorem dX10_init_111 : decode cX10_init 111 = .ok (.sipush 4320, 3) := by decide +kernel
theorem dX10_init_114 : decode cX10_init 114 = .ok (.newarray .int, 2) := by decide +kernel
theorem dX10_init_116 : decode cX10_init 116 = .ok (.putfield 49, 3) := by decide +kernel
theorem dX10_init_119 : decode cX10_init 119 = .ok (.aload_n 0, 1) := by decide +kernel
theorem dX10_init_120 : decode cX10_init 120 = .ok (.sipush 4320, 3) := by decide +kernel
theorem dX10_init_123 : decode cX10_init 123 = .ok (.newarray .int, 2) := by decide +kernel
theorem dX10_init_125 : decode cX10_init 125 = .ok (.putfield 52, 3) := by decide +kernel
theorem dX10_init_128 : decode cX10_init 128 = .ok (.return_, 1) := by decide +kernel
theorem dX10_isCopied_0 : decode cX10_isCopied 0 = .ok (.aload_n 0, 1) := by decide +kernel
theorem dX10_isCopied_1 : decode cX10_isCopied 1 = .ok (.getfield 9, 3) := by decide +kernel
theorem dX10_isCopied_4 : decode cX10_isCopied 4 = .ok (.iload_n 1, 1) := by decide +kernel
theorem dX10_isCopied_5 : decode cX10_isCopied 5 = .ok (.iaload, 1) := by decide +kernel
theorem dX10_isCopied_6 : decode cX10_isCopied 6 = .ok (.ifCond .eq 13, 3) := by decide +kernel
theorem dX10_isCopied_9 : decode cX10_isCopied 9 = .ok (.aload_n 0, 1) := by decide +kernel
theorem dX10_isCopied_10 : decode cX10_isCopied 10 = .ok (.getfield 9, 3) := by decide +kernel
theorem dX10_isCopied_13 : decode cX10_isCopied 13 = .ok (.iload_n 1, 1) := by decide +kernel
theorem dX10_isCopied_14 : decode cX10_isCopied 14 = .ok (.iaload, 1) := by decide +kernel
theorem dX10_isCopied_15 : decode cX10_isCopied 15 = .ok (.iconst 5, 1) := by decide +kernel
theorem dX10_isCopied_16 : decode cX10_isCopied 16 = .ok (.if_icmp .ne 7, 3) := by decide +kernel
theorem dX10_isCopied_19 : decode cX10_isCopied 19 = .ok (.iconst 1, 1) := by decide +kernel
theorem dX10_isCopied_20 : decode cX10_isCopied 20 = .ok (.goto 4, 3) := by decide +kernel
theorem dX10_isCopied_23 : decode cX10_isCopied 23 = .ok (.iconst 0, 1) := by decide +kernel
theorem dX10_isCopied_24 : decode cX10_isCopied 24 = .ok (.ireturn, 1) := by decide +kernel
theorem dX10_isReference_0 : decode cX10_isReference 0 = .ok (.iload_n 1, 1) := by decide +kernel
theorem dX10_isReference_1 : decode cX10_isReference 1 = .ok (.ifCond .lt 28, 3) := by decide +kernel
theorem dX10_isReference_4 : decode cX10_isReference 4 = .ok (.aload_n 0, 1) := by decide +kernel
theorem dX10_isReference_5 : decode cX10_isReference 5 = .ok (.getfield 9, 3) := by decide +kernel
theorem dX10_isReference_8 : decode cX10_isReference 8 = .ok (.iload_n 1, 1) := by decide +kernel
theorem dX10_isReference_9 : decode cX10_isReference 9 = .ok (.iaload, 1) := by decide +kernel
theorem dX10_isReference_10 : decode cX10_isReference 10 = .ok (.iconst 5, 1) := by decide +kernel
theorem dX10_isReference_11 : decode cX10_isReference 11 = .ok (.if_icmp .eq 14, 3) := by decide +kernel
theorem dX10_isReference_14 : decode cX10_isReference 14 = .ok (.aload_n 0, 1) := by decide +kernel
theorem dX10_isReference_15 : decode cX10_isReference 15 = .ok (.getfield 9, 3) := by decide +kernel
theorem dX10_isReference_18 : decode cX10_isReference 18 = .ok (.iload_n 1, 1) := by decide +kernel
theorem dX10_isReference_19 : decode cX10_isReference 19 = .ok (.iaload, 1) := by decide +kernel
theorem dX10_isReference_20 : decode cX10_isReference 20 = .ok (.bipush 6, 2) := by decide +kernel
theorem dX10_isReference_22 : decode cX10_isReference 22 = .ok (.if_icmp .ne 7, 3) := by decide +kernel
theorem dX10_isReference_25 : decode cX10_isReference 25 = .ok (.iconst 1, 1) := by decide +kernel
theorem dX10_isReference_26 : decode cX10_isReference 26 = .ok (.goto 4, 3) := by decide +kernel
theorem dX10_isReference_29 : decode cX10_isReference 29 = .ok (.iconst 0, 1) := by decide +kernel
theorem dX10_isReference_30 : decode cX10_isReference 30 = .ok (.ireturn, 1) := by decide +kernel
theorem dX10_make_0 : decode cX10_make 0 = .ok (.aload_n 0, 1) := by decide +kernel
theorem dX10_make_1 : decode cX10_make 1 = .ok (.getfield 59, 3) := by decide +kernel
theorem dX10_make_4 : decode cX10_make 4 = .ok (.sipush 3040, 3) := by decide +kernel
theorem dX10_make_7 : decode cX10_make 7 = .ok (.if_icmp .ne 5, 3) := by decide +kernel
theorem dX10_make_10 : decode cX10_make 10 = .ok (.iconst 0, 1) := by decide +kernel
theorem dX10_make_11 : decode cX10_make 11 = .ok (.ireturn, 1) := by decide +kernel
theorem dX10_make_12 : decode cX10_make 12 = .ok (.aload_n 0, 1) := by decide +kernel
theorem dX10_make_13 : decode cX10_make 13 = .ok (.getfield 59, 3) := by decide +kernel
theorem dX10_make_16 : decode cX10_make 16 = .ok (.istore_n 3, 1) := by decide +kernel
theorem dX10_make_17 : decode cX10_make 17 = .ok (.aload_n 0, 1) := by decide +kernel
theorem dX10_make_18 : decode cX10_make 18 = .ok (.getfield 9, 3) := by decide +kernel
theorem dX10_make_21 : decode cX10_make 21 = .ok (.iload_n 3, 1) := by decide +kernel
theorem dX10_make_22 : decode cX10_make 22 = .ok (.iload_n 1, 1) := by decide +kernel
theorem dX10_make_23 : decode cX10_make 23 = .ok (.iastore, 1) := by decide +kernel
theorem dX10_make_24 : decode cX10_make 24 = .ok (.aload_n 0, 1) := by decide +kernel
theorem dX10_make_25 : decode cX10_make 25 = .ok (.getfield 15, 3) := by decide +kernel
theorem dX10_make_28 : decode cX10_make 28 = .ok (.iload_n 3, 1) := by decide +kernel
theorem dX10_make_29 : decode cX10_make 29 = .ok (.iload_n 2, 1) := by decide +kernel
theorem dX10_make_30 : decode cX10_make 30 = .ok (.iastore, 1) := by decide +kernel
theorem dX10_make_31 : decode cX10_make 31 = .ok (.aload_n 0, 1) := by decide +kernel
theorem dX10_make_32 : decode cX10_make 32 = .ok (.getfield 18, 3) := by decide +kernel
theorem dX10_make_35 : decode cX10_make 35 = .ok (.iload_n 3, 1) := by decide +kernel
theorem dX10_make_36 : decode cX10_make 36 = .ok (.iconst 1, 1) := by decide +kernel
theorem dX10_make_37 : decode cX10_make 37 = .ok (.iastore, 1) := by decide +kernel
theorem dX10_make_38 : decode cX10_make 38 = .ok (.aload_n 0, 1) := by decide +kernel
theorem dX10_make_39 : decode cX10_make 39 = .ok (.getfield 21, 3) := by decide +kernel
theorem dX10_make_42 : decode cX10_make 42 = .ok (.iload_n 3, 1) := by decide +kernel
theorem dX10_make_43 : decode cX10_make 43 = .ok (.iload_n 1, 1) := by decide +kernel
theorem dX10_make_44 : decode cX10_make 44 = .ok (.iconst 4, 1) := by decide +kernel
theorem dX10_make_45 : decode cX10_make 45 = .ok (.if_icmp .ne 7, 3) := by decide +kernel
theorem dX10_make_48 : decode cX10_make 48 = .ok (.iconst 1, 1) := by decide +kernel
theorem dX10_make_49 : decode cX10_make 49 = .ok (.goto 4, 3) := by decide +kernel
theorem dX10_make_52 : decode cX10_make 52 = .ok (.iconst 0, 1) := by decide +kernel
theorem dX10_make_53 : decode cX10_make 53 = .ok (.bastore, 1) := by decide +kernel
theorem dX10_make_54 : decode cX10_make 54 = .ok (.aload_n 0, 1) := by decide +kernel
theorem dX10_make_55 : decode cX10_make 55 = .ok (.getfield 25, 3) := by decide +kernel
theorem dX10_make_58 : decode cX10_make 58 = .ok (.iload_n 3, 1) := by decide +kernel
theorem dX10_make_59 : decode cX10_make 59 = .ok (.iconst 0, 1) := by decide +kernel
theorem dX10_make_60 : decode cX10_make 60 = .ok (.iastore, 1) := by decide +kernel
theorem dX10_make_61 : decode cX10_make 61 = .ok (.aload_n 0, 1) := by decide +kernel
theorem dX10_make_62 : decode cX10_make 62 = .ok (.getfield 28, 3) := by decide +kernel
theorem dX10_make_65 : decode cX10_make 65 = .ok (.iload_n 3, 1) := by decide +kernel
theorem dX10_make_66 : decode cX10_make 66 = .ok (.iconst 0, 1) := by decide +kernel
theorem dX10_make_67 : decode cX10_make 67 = .ok (.iastore, 1) := by decide +kernel
theorem dX10_make_68 : decode cX10_make 68 = .ok (.aload_n 0, 1) := by decide +kernel
theorem dX10_make_69 : decode cX10_make 69 = .ok (.getfield 31, 3) := by decide +kernel
theorem dX10_make_72 : decode cX10_make 72 = .ok (.iload_n 3, 1) := by decide +kernel
theorem dX10_make_73 : decode cX10_make 73 = .ok (.iconst 0, 1) := by decide +kernel
theorem dX10_make_74 : decode cX10_make 74 = .ok (.iastore, 1) := by decide +kernel
theorem dX10_make_75 : decode cX10_make 75 = .ok (.aload_n 0, 1) := by decide +kernel
theorem dX10_make_76 : decode cX10_make 76 = .ok (.dup, 1) := by decide +kernel
theorem dX10_make_77 : decode cX10_make 77 = .ok (.getfield 59, 3) := by decide +kernel
theorem dX10_make_80 : decode cX10_make 80 = .ok (.iconst 1, 1) := by decide +kernel
theorem dX10_make_81 : decode cX10_make 81 = .ok (.iadd, 1) := by decide +kernel
theorem dX10_make_82 : decode cX10_make 82 = .ok (.putfield 59, 3) := by decide +kernel
theorem dX10_make_85 : decode cX10_make 85 = .ok (.iload_n 3, 1) := by decide +kernel
theorem dX10_make_86 : decode cX10_make 86 = .ok (.ireturn, 1) := by decide +kernel
theorem dX10_measure_0 : decode cX10_measure 0 = .ok (.iconst 0, 1) := by decide +kernel
theorem dX10_measure_1 : decode cX10_measure 1 = .ok (.istore_n 1, 1) := by decide +kernel
theorem dX10_measure_2 : decode cX10_measure 2 = .ok (.iload_n 1, 1) := by decide +kernel
theorem dX10_measure_3 : decode cX10_measure 3 = .ok (.aload_n 0, 1) := by decide +kernel
theorem dX10_measure_4 : decode cX10_measure 4 = .ok (.getfield 55, 3) := by decide +kernel
theorem dX10_measure_7 : decode cX10_measure 7 = .ok (.if_icmp .ge 41, 3) := by decide +kernel
theorem dX10_measure_10 : decode cX10_measure 10 = .ok (.iconst 0, 1) := by decide +kernel
theorem dX10_measure_11 : decode cX10_measure 11 = .ok (.istore_n 2, 1) := by decide +kernel
theorem dX10_measure_12 : decode cX10_measure 12 = .ok (.iload_n 2, 1) := by decide +kernel
theorem dX10_measure_13 : decode cX10_measure 13 = .ok (.aload_n 0, 1) := by decide +kernel
theorem dX10_measure_14 : decode cX10_measure 14 = .ok (.getfield 55, 3) := by decide +kernel
theorem dX10_measure_17 : decode cX10_measure 17 = .ok (.if_icmp .ge 25, 3) := by decide +kernel
theorem dX10_measure_20 : decode cX10_measure 20 = .ok (.aload_n 0, 1) := by decide +kernel
theorem dX10_measure_21 : decode cX10_measure 21 = .ok (.getfield 18, 3) := by decide +kernel
theorem dX10_measure_24 : decode cX10_measure 24 = .ok (.iconst 4, 1) := by decide +kernel
theorem dX10_measure_25 : decode cX10_measure 25 = .ok (.iload_n 2, 1) := by decide +kernel
theorem dX10_measure_26 : decode cX10_measure 26 = .ok (.iadd, 1) := by decide +kernel
theorem dX10_measure_27 : decode cX10_measure 27 = .ok (.iaload, 1) := by decide +kernel
theorem dX10_measure_28 : decode cX10_measure 28 = .ok (.ifCond .ne 8, 3) := by decide +kernel
theorem dX10_measure_31 : decode cX10_measure 31 = .ok (.aload_n 0, 1) := by decide +kernel
theorem dX10_measure_32 : decode cX10_measure 32 = .ok (.iload_n 2, 1) := by decide +kernel
theorem dX10_measure_33 : decode cX10_measure 33 = .ok (.invokevirtual 66, 3) := by decide +kernel
theorem dX10_measure_36 : decode cX10_measure 36 = .ok (.iinc 2 1, 3) := by decide +kernel
theorem dX10_measure_39 : decode cX10_measure 39 = .ok (.goto (-27), 3) := by decide +kernel
theorem dX10_measure_42 : decode cX10_measure 42 = .ok (.iinc 1 1, 3) := by decide +kernel
theorem dX10_measure_45 : decode cX10_measure 45 = .ok (.goto (-43), 3) := by decide +kernel
theorem dX10_measure_48 : decode cX10_measure 48 = .ok (.return_, 1) := by decide +kernel
theorem dX10_measureShape_0 : decode cX10_measureShape 0 = .ok (.iconst 4, 1) := by decide +kernel
theorem dX10_measureShape_1 : decode cX10_measureShape 1 = .ok (.iload_n 1, 1) := by decide +kernel
theorem dX10_measureShape_2 : decode cX10_measureShape 2 = .ok (.iadd, 1) := by decide +kernel
theorem dX10_measureShape_3 : decode cX10_measureShape 3 = .ok (.istore_n 2, 1) := by decide +kernel
theorem dX10_measureShape_4 : decode cX10_measureShape 4 = .ok (.aload_n 0, 1) := by decide +kernel
theorem dX10_measureShape_5 : decode cX10_measureShape 5 = .ok (.getfield 9, 3) := by decide +kernel
theorem dX10_measureShape_8 : decode cX10_measureShape 8 = .ok (.iload_n 2, 1) := by decide +kernel
theorem dX10_measureShape_9 : decode cX10_measureShape 9 = .ok (.iaload, 1) := by decide +kernel
theorem dX10_measureShape_10 : decode cX10_measureShape 10 = .ok (.iconst 3, 1) := by decide +kernel
theorem dX10_measureShape_11 : decode cX10_measureShape 11 = .ok (.if_icmp .ne 7, 3) := by decide +kernel
theorem dX10_measureShape_14 : decode cX10_measureShape 14 = .ok (.iconst 1, 1) := by decide +kernel
theorem dX10_measureShape_15 : decode cX10_measureShape 15 = .ok (.goto 4, 3) := by decide +kernel
theorem dX10_measureShape_18 : decode cX10_measureShape 18 = .ok (.iconst 0, 1) := by decide +kernel
theorem dX10_measureShape_19 : decode cX10_measureShape 19 = .ok (.istore_n 3, 1) := by decide +kernel
theorem dX10_measureShape_20 : decode cX10_measureShape 20 = .ok (.iconst 0, 1) := by decide +kernel
theorem dX10_measureShape_21 : decode cX10_measureShape 21 = .ok (.istore 4, 2) := by decide +kernel
theorem dX10_measureShape_23 : decode cX10_measureShape 23 = .ok (.iconst 0, 1) := by decide +kernel
theorem dX10_measureShape_24 : decode cX10_measureShape 24 = .ok (.istore 5, 2) := by decide +kernel
theorem dX10_measureShape_26 : decode cX10_measureShape 26 = .ok (.iconst 0, 1) := by decide +kernel
theorem dX10_measureShape_27 : decode cX10_measureShape 27 = .ok (.istore 6, 2) := by decide +kernel
theorem dX10_measureShape_29 : decode cX10_measureShape 29 = .ok (.iload 6, 2) := by decide +kernel
theorem dX10_measureShape_31 : decode cX10_measureShape 31 = .ok (.aload_n 0, 1) := by decide +kernel
theorem dX10_measureShape_32 : decode cX10_measureShape 32 = .ok (.getfield 37, 3) := by decide +kernel
theorem dX10_measureShape_35 : decode cX10_measureShape 35 = .ok (.iload_n 1, 1) := by decide +kernel
theorem dX10_measureShape_36 : decode cX10_measureShape 36 = .ok (.iaload, 1) := by decide +kernel
theorem dX10_measureShape_37 : decode cX10_measureShape 37 = .ok (.if_icmp .ge 135, 3) := by decide +kernel
theorem dX10_measureShape_40 : decode cX10_measureShape 40 = .ok (.aload_n 0, 1) := by decide +kernel
theorem dX10_measureShape_41 : decode cX10_measureShape 41 = .ok (.iload_n 1, 1) := by decide +kernel
theorem dX10_measureShape_42 : decode cX10_measureShape 42 = .ok (.iload 6, 2) := by decide +kernel
theorem dX10_measureShape_44 : decode cX10_measureShape 44 = .ok (.invokevirtual 70, 3) := by decide +kernel
theorem dX10_measureShape_47 : decode cX10_measureShape 47 = .ok (.istore 7, 2) := by decide +kernel
theorem dX10_measureShape_49 : decode cX10_measureShape 49 = .ok (.iload_n 3, 1) := by decide +kernel
theorem dX10_measureShape_50 : decode cX10_measureShape 50 = .ok (.istore 8, 2) := by decide +kernel
theorem dX10_measureShape_52 : decode cX10_measureShape 52 = .ok (.iload 7, 2) := by decide +kernel
theorem dX10_measureShape_54 : decode cX10_measureShape 54 = .ok (.bipush 12, 2) := by decide +kernel
theorem dX10_measureShape_56 : decode cX10_measureShape 56 = .ok (.imul, 1) := by decide +kernel
theorem dX10_measureShape_57 : decode cX10_measureShape 57 = .ok (.istore 9, 2) := by decide +kernel
theorem dX10_measureShape_59 : decode cX10_measureShape 59 = .ok (.iload 9, 2) := by decide +kernel
theorem dX10_measureShape_61 : decode cX10_measureShape 61 = .ok (.iload 7, 2) := by decide +kernel
theorem dX10_measureShape_63 : decode cX10_measureShape 63 = .ok (.bipush 12, 2) := by decide +kernel
theorem dX10_measureShape_65 : decode cX10_measureShape 65 = .ok (.imul, 1) := by decide +kernel
theorem dX10_measureShape_66 : decode cX10_measureShape 66 = .ok (.aload_n 0, 1) := by decide +kernel
theorem dX10_measureShape_67 : decode cX10_measureShape 67 = .ok (.getfield 43, 3) := by decide +kernel
theorem dX10_measureShape_70 : decode cX10_measureShape 70 = .ok (.iload 7, 2) := by decide +kernel
theorem dX10_measureShape_72 : decode cX10_measureShape 72 = .ok (.iaload, 1) := by decide +kernel
theorem dX10_measureShape_73 : decode cX10_measureShape 73 = .ok (.iadd, 1) := by decide +kernel
theorem dX10_measureShape_74 : decode cX10_measureShape 74 = .ok (.if_icmp .ge 83, 3) := by decide +kernel
theorem dX10_measureShape_77 : decode cX10_measureShape 77 = .ok (.aload_n 0, 1) := by decide +kernel
theorem dX10_measureShape_78 : decode cX10_measureShape 78 = .ok (.getfield 18, 3) := by decide +kernel
theorem dX10_measureShape_81 : decode cX10_measureShape 81 = .ok (.aload_n 0, 1) := by decide +kernel
theorem dX10_measureShape_82 : decode cX10_measureShape 82 = .ok (.getfield 49, 3) := by decide +kernel
theorem dX10_measureShape_85 : decode cX10_measureShape 85 = .ok (.iload 9, 2) := by decide +kernel
theorem dX10_measureShape_87 : decode cX10_measureShape 87 = .ok (.iaload, 1) := by decide +kernel
theorem dX10_measureShape_88 : decode cX10_measureShape 88 = .ok (.iaload, 1) := by decide +kernel
theorem dX10_measureShape_89 : decode cX10_measureShape 89 = .ok (.ifCond .ne 4, 3) := by decide +kernel
theorem dX10_measureShape_92 : decode cX10_measureShape 92 = .ok (.return_, 1) := by decide +kernel
theorem dX10_measureShape_93 : decode cX10_measureShape 93 = .ok (.aload_n 0, 1) := by decide +kernel
theorem dX10_measureShape_94 : decode cX10_measureShape 94 = .ok (.getfield 52, 3) := by decide +kernel
theorem dX10_measureShape_97 : decode cX10_measureShape 97 = .ok (.iload 9, 2) := by decide +kernel
theorem dX10_measureShape_99 : decode cX10_measureShape 99 = .ok (.iload 8, 2) := by decide +kernel
theorem dX10_measureShape_101 : decode cX10_measureShape 101 = .ok (.iastore, 1) := by decide +kernel
theorem dX10_measureShape_102 : decode cX10_measureShape 102 = .ok (.iload 8, 2) := by decide +kernel
theorem dX10_measureShape_104 : decode cX10_measureShape 104 = .ok (.aload_n 0, 1) := by decide +kernel
theorem dX10_measureShape_105 : decode cX10_measureShape 105 = .ok (.getfield 18, 3) := by decide +kernel
theorem dX10_measureShape_108 : decode cX10_measureShape 108 = .ok (.aload_n 0, 1) := by decide +kernel
theorem dX10_measureShape_109 : decode cX10_measureShape 109 = .ok (.getfield 49, 3) := by decide +kernel
theorem dX10_measureShape_112 : decode cX10_measureShape 112 = .ok (.iload 9, 2) := by decide +kernel
theorem dX10_measureShape_114 : decode cX10_measureShape 114 = .ok (.iaload, 1) := by decide +kernel
theorem dX10_measureShape_115 : decode cX10_measureShape 115 = .ok (.iaload, 1) := by decide +kernel
theorem dX10_measureShape_116 : decode cX10_measureShape 116 = .ok (.iadd, 1) := by decide +kernel
theorem dX10_measureShape_117 : decode cX10_measureShape 117 = .ok (.bipush 17, 2) := by decide +kernel
theorem dX10_measureShape_119 : decode cX10_measureShape 119 = .ok (.invokestatic 73, 3) := by decide +kernel
theorem dX10_measureShape_122 : decode cX10_measureShape 122 = .ok (.istore 8, 2) := by decide +kernel
theorem dX10_measureShape_124 : decode cX10_measureShape 124 = .ok (.iload 5, 2) := by decide +kernel
theorem dX10_measureShape_126 : decode cX10_measureShape 126 = .ok (.ifCond .ne 18, 3) := by decide +kernel
theorem dX10_measureShape_129 : decode cX10_measureShape 129 = .ok (.aload_n 0, 1) := by decide +kernel
theorem dX10_measureShape_130 : decode cX10_measureShape 130 = .ok (.getfield 21, 3) := by decide +kernel
theorem dX10_measureShape_133 : decode cX10_measureShape 133 = .ok (.aload_n 0, 1) := by decide +kernel
theorem dX10_measureShape_134 : decode cX10_measureShape 134 = .ok (.getfield 49, 3) := by decide +kernel
theorem dX10_measureShape_137 : decode cX10_measureShape 137 = .ok (.iload 9, 2) := by decide +kernel
theorem dX10_measureShape_139 : decode cX10_measureShape 139 = .ok (.iaload, 1) := by decide +kernel
theorem dX10_measureShape_140 : decode cX10_measureShape 140 = .ok (.baload, 1) := by decide +kernel
theorem dX10_measureShape_141 : decode cX10_measureShape 141 = .ok (.ifCond .eq 7, 3) := by decide +kernel
theorem dX10_measureShape_144 : decode cX10_measureShape 144 = .ok (.iconst 1, 1) := by decide +kernel
theorem dX10_measureShape_145 : decode cX10_measureShape 145 = .ok (.goto 4, 3) := by decide +kernel
theorem dX10_measureShape_148 : decode cX10_measureShape 148 = .ok (.iconst 0, 1) := by decide +kernel
theorem dX10_measureShape_149 : decode cX10_measureShape 149 = .ok (.istore 5, 2) := by decide +kernel
theorem dX10_measureShape_151 : decode cX10_measureShape 151 = .ok (.iinc 9 1, 3) := by decide +kernel
theorem dX10_measureShape_154 : decode cX10_measureShape 154 = .ok (.goto (-95), 3) := by decide +kernel
theorem dX10_measureShape_157 : decode cX10_measureShape 157 = .ok (.iload 4, 2) := by decide +kernel
theorem dX10_measureShape_159 : decode cX10_measureShape 159 = .ok (.iload 8, 2) := by decide +kernel
theorem dX10_measureShape_161 : decode cX10_measureShape 161 = .ok (.invokestatic 78, 3) := by decide +kernel
theorem dX10_measureShape_164 : decode cX10_measureShape 164 = .ok (.istore 4, 2) := by decide +kernel
theorem dX10_measureShape_166 : decode cX10_measureShape 166 = .ok (.iinc 6 1, 3) := by decide +kernel
theorem dX10_measureShape_169 : decode cX10_measureShape 169 = .ok (.goto (-140), 3) := by decide +kernel
theorem dX10_measureShape_172 : decode cX10_measureShape 172 = .ok (.aload_n 0, 1) := by decide +kernel
theorem dX10_measureShape_173 : decode cX10_measureShape 173 = .ok (.getfield 18, 3) := by decide +kernel
theorem dX10_measureShape_176 : decode cX10_measureShape 176 = .ok (.iload_n 2, 1) := by decide +kernel
theorem dX10_measureShape_177 : decode cX10_measureShape 177 = .ok (.iload 4, 2) := by decide +kernel
theorem dX10_measureShape_179 : decode cX10_measureShape 179 = .ok (.iastore, 1) := by decide +kernel
theorem dX10_measureShape_180 : decode cX10_measureShape 180 = .ok (.aload_n 0, 1) := by decide +kernel
theorem dX10_measureShape_181 : decode cX10_measureShape 181 = .ok (.getfield 21, 3) := by decide +kernel
theorem dX10_measureShape_184 : decode cX10_measureShape 184 = .ok (.iload_n 2, 1) := by decide +kernel
theorem dX10_measureShape_185 : decode cX10_measureShape 185 = .ok (.iload 5, 2) := by decide +kernel
theorem dX10_measureShape_187 : decode cX10_measureShape 187 = .ok (.bastore, 1) := by decide +kernel
theorem dX10_measureShape_188 : decode cX10_measureShape 188 = .ok (.return_, 1) := by decide +kernel
theorem dX10_partOf_0 : decode cX10_partOf 0 = .ok (.iconst 0, 1) := by decide +kernel
theorem dX10_partOf_1 : decode cX10_partOf 1 = .ok (.istore_n 3, 1) := by decide +kernel
theorem dX10_partOf_2 : decode cX10_partOf 2 = .ok (.iload_n 3, 1) := by decide +kernel
theorem dX10_partOf_3 : decode cX10_partOf 3 = .ok (.aload_n 0, 1) := by decide +kernel
theorem dX10_partOf_4 : decode cX10_partOf 4 = .ok (.getfield 43, 3) := by decide +kernel
theorem dX10_partOf_7 : decode cX10_partOf 7 = .ok (.iload_n 1, 1) := by decide +kernel
theorem dX10_partOf_8 : decode cX10_partOf 8 = .ok (.iaload, 1) := by decide +kernel
theorem dX10_partOf_9 : decode cX10_partOf 9 = .ok (.if_icmp .ge 26, 3) := by decide +kernel
theorem dX10_partOf_12 : decode cX10_partOf 12 = .ok (.aload_n 0, 1) := by decide +kernel
theorem dX10_partOf_13 : decode cX10_partOf 13 = .ok (.getfield 46, 3) := by decide +kernel
theorem dX10_partOf_16 : decode cX10_partOf 16 = .ok (.iload_n 1, 1) := by decide +kernel
theorem dX10_partOf_17 : decode cX10_partOf 17 = .ok (.bipush 12, 2) := by decide +kernel
theorem dX10_partOf_19 : decode cX10_partOf 19 = .ok (.imul, 1) := by decide +kernel
theorem dX10_partOf_20 : decode cX10_partOf 20 = .ok (.iload_n 3, 1) := by decide +kernel
theorem dX10_partOf_21 : decode cX10_partOf 21 = .ok (.iadd, 1) := by decide +kernel
theorem dX10_partOf_22 : decode cX10_partOf 22 = .ok (.iaload, 1) := by decide +kernel
theorem dX10_partOf_23 : decode cX10_partOf 23 = .ok (.iload_n 2, 1) := by decide +kernel
theorem dX10_partOf_24 : decode cX10_partOf 24 = .ok (.if_icmp .ne 5, 3) := by decide +kernel
theorem dX10_partOf_27 : decode cX10_partOf 27 = .ok (.iload_n 3, 1) := by decide +kernel
theorem dX10_partOf_28 : decode cX10_partOf 28 = .ok (.ireturn, 1) := by decide +kernel
theorem dX10_partOf_29 : decode cX10_partOf 29 = .ok (.iinc 3 1, 3) := by decide +kernel
theorem dX10_partOf_32 : decode cX10_partOf 32 = .ok (.goto (-30), 3) := by decide +kernel
theorem dX10_partOf_35 : decode cX10_partOf 35 = .ok (.iconst (-1), 1) := by decide +kernel
theorem dX10_partOf_36 : decode cX10_partOf 36 = .ok (.ireturn, 1) := by decide +kernel
theorem dX10_referenceTo_0 : decode cX10_referenceTo 0 = .ok (.iload_n 2, 1) := by decide +kernel
theorem dX10_referenceTo_1 : decode cX10_referenceTo 1 = .ok (.ifCond .eq 10, 3) := by decide +kernel
theorem dX10_referenceTo_4 : decode cX10_referenceTo 4 = .ok (.aload_n 0, 1) := by decide +kernel
theorem dX10_referenceTo_5 : decode cX10_referenceTo 5 = .ok (.getfield 31, 3) := by decide +kernel
theorem dX10_referenceTo_8 : decode cX10_referenceTo 8 = .ok (.goto 7, 3) := by decide +kernel
theorem dX10_referenceTo_11 : decode cX10_referenceTo 11 = .ok (.aload_n 0, 1) := by decide +kernel
theorem dX10_referenceTo_12 : decode cX10_referenceTo 12 = .ok (.getfield 28, 3) := by decide +kernel
theorem dX10_referenceTo_15 : decode cX10_referenceTo 15 = .ok (.astore_n 3, 1) := by decide +kernel
theorem dX10_referenceTo_16 : decode cX10_referenceTo 16 = .ok (.aload_n 3, 1) := by decide +kernel
theorem dX10_referenceTo_17 : decode cX10_referenceTo 17 = .ok (.iload_n 1, 1) := by decide +kernel
theorem dX10_referenceTo_18 : decode cX10_referenceTo 18 = .ok (.iaload, 1) := by decide +kernel
theorem dX10_referenceTo_19 : decode cX10_referenceTo 19 = .ok (.ifCond .ne 21, 3) := by decide +kernel
theorem dX10_referenceTo_22 : decode cX10_referenceTo 22 = .ok (.aload_n 3, 1) := by decide +kernel
theorem dX10_referenceTo_23 : decode cX10_referenceTo 23 = .ok (.iload_n 1, 1) := by decide +kernel
theorem dX10_referenceTo_24 : decode cX10_referenceTo 24 = .ok (.aload_n 0, 1) := by decide +kernel
theorem dX10_referenceTo_25 : decode cX10_referenceTo 25 = .ok (.iload_n 2, 1) := by decide +kernel
theorem dX10_referenceTo_26 : decode cX10_referenceTo 26 = .ok (.ifCond .eq 8, 3) := by decide +kernel
theorem dX10_referenceTo_29 : decode cX10_referenceTo 29 = .ok (.bipush 6, 2) := by decide +kernel
theorem dX10_referenceTo_31 : decode cX10_referenceTo 31 = .ok (.goto 4, 3) := by decide +kernel
theorem dX10_referenceTo_34 : decode cX10_referenceTo 34 = .ok (.iconst 5, 1) := by decide +kernel
theorem dX10_referenceTo_35 : decode cX10_referenceTo 35 = .ok (.iload_n 1, 1) := by decide +kernel
theorem dX10_referenceTo_36 : decode cX10_referenceTo 36 = .ok (.invokevirtual 62, 3) := by decide +kernel
theorem dX10_referenceTo_39 : decode cX10_referenceTo 39 = .ok (.iastore, 1) := by decide +kernel
theorem dX10_referenceTo_40 : decode cX10_referenceTo 40 = .ok (.aload_n 3, 1) := by decide +kernel
theorem dX10_referenceTo_41 : decode cX10_referenceTo 41 = .ok (.iload_n 1, 1) := by decide +kernel
theorem dX10_referenceTo_42 : decode cX10_referenceTo 42 = .ok (.iaload, 1) := by decide +kernel
theorem dX10_referenceTo_43 : decode cX10_referenceTo 43 = .ok (.ireturn, 1) := by decide +kernel
theorem dX10_rowOf_0 : decode cX10_rowOf 0 = .ok (.iload_n 1, 1) := by decide +kernel
theorem dX10_rowOf_1 : decode cX10_rowOf 1 = .ok (.bipush 12, 2) := by decide +kernel
theorem dX10_rowOf_3 : decode cX10_rowOf 3 = .ok (.imul, 1) := by decide +kernel
theorem dX10_rowOf_4 : decode cX10_rowOf 4 = .ok (.iload_n 2, 1) := by decide +kernel
theorem dX10_rowOf_5 : decode cX10_rowOf 5 = .ok (.iadd, 1) := by decide +kernel
theorem dX10_rowOf_6 : decode cX10_rowOf 6 = .ok (.ireturn, 1) := by decide +kernel
theorem dX10_variantOf_0 : decode cX10_variantOf 0 = .ok (.iconst 0, 1) := by decide +kernel
theorem dX10_variantOf_1 : decode cX10_variantOf 1 = .ok (.istore_n 3, 1) := by decide +kernel
theorem dX10_variantOf_2 : decode cX10_variantOf 2 = .ok (.iload_n 3, 1) := by decide +kernel
theorem dX10_variantOf_3 : decode cX10_variantOf 3 = .ok (.aload_n 0, 1) := by decide +kernel
theorem dX10_variantOf_4 : decode cX10_variantOf 4 = .ok (.getfield 37, 3) := by decide +kernel
theorem dX10_variantOf_7 : decode cX10_variantOf 7 = .ok (.iload_n 1, 1) := by decide +kernel
theorem dX10_variantOf_8 : decode cX10_variantOf 8 = .ok (.iaload, 1) := by decide +kernel
theorem dX10_variantOf_9 : decode cX10_variantOf 9 = .ok (.if_icmp .ge 26, 3) := by decide +kernel
theorem dX10_variantOf_12 : decode cX10_variantOf 12 = .ok (.aload_n 0, 1) := by decide +kernel
theorem dX10_variantOf_13 : decode cX10_variantOf 13 = .ok (.getfield 40, 3) := by decide +kernel
theorem dX10_variantOf_16 : decode cX10_variantOf 16 = .ok (.iload_n 1, 1) := by decide +kernel
theorem dX10_variantOf_17 : decode cX10_variantOf 17 = .ok (.bipush 12, 2) := by decide +kernel
theorem dX10_variantOf_19 : decode cX10_variantOf 19 = .ok (.imul, 1) := by decide +kernel
theorem dX10_variantOf_20 : decode cX10_variantOf 20 = .ok (.iload_n 3, 1) := by decide +kernel
theorem dX10_variantOf_21 : decode cX10_variantOf 21 = .ok (.iadd, 1) := by decide +kernel
theorem dX10_variantOf_22 : decode cX10_variantOf 22 = .ok (.iaload, 1) := by decide +kernel
theorem dX10_variantOf_23 : decode cX10_variantOf 23 = .ok (.iload_n 2, 1) := by decide +kernel
theorem dX10_variantOf_24 : decode cX10_variantOf 24 = .ok (.if_icmp .ne 5, 3) := by decide +kernel
theorem dX10_variantOf_27 : decode cX10_variantOf 27 = .ok (.iload_n 3, 1) := by decide +kernel
theorem dX10_variantOf_28 : decode cX10_variantOf 28 = .ok (.ireturn, 1) := by decide +kernel
theorem dX10_variantOf_29 : decode cX10_variantOf 29 = .ok (.iinc 3 1, 3) := by decide +kernel
theorem dX10_variantOf_32 : decode cX10_variantOf 32 = .ok (.goto (-30), 3) := by decide +kernel
theorem dX10_variantOf_35 : decode cX10_variantOf 35 = .ok (.iconst (-1), 1) := by decide +kernel
theorem dX10_variantOf_36 : decode cX10_variantOf 36 = .ok (.ireturn, 1) := by decide +kernel
