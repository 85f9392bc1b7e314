theorem dX0_add_0 : decode cX0_add 0 = .ok (.aload_n 0, 1) := by decide +kernel
theorem dX0_add_1 : decode cX0_add 1 = .ok (.getfield 54, 3) := by decide +kernel
theorem dX0_add_4 : decode cX0_add 4 = .ok (.sipush 6000, 3) := by decide +kernel
theorem dX0_add_7 : decode cX0_add 7 = .ok (.if_icmp .ne 4, 3) := by decide +kernel
theorem dX0_add_10 : decode cX0_add 10 = .ok (.return_, 1) := by decide +kernel
theorem dX0_add_11 : decode cX0_add 11 = .ok (.aload_n 0, 1) := by decide +kernel
theorem dX0_add_12 : decode cX0_add 12 = .ok (.getfield 9, 3) := by decide +kernel
theorem dX0_add_15 : decode cX0_add 15 = .ok (.aload_n 0, 1) := by decide +kernel
theorem dX0_add_16 : decode cX0_add 16 = .ok (.getfield 54, 3) := by decide +kernel
theorem dX0_add_19 : decode cX0_add 19 = .ok (.iload_n 1, 1) := by decide +kernel
theorem dX0_add_20 : decode cX0_add 20 = .ok (.iastore, 1) := by decide +kernel
theorem dX0_add_21 : decode cX0_add 21 = .ok (.aload_n 0, 1) := by decide +kernel
theorem dX0_add_22 : decode cX0_add 22 = .ok (.getfield 15, 3) := by decide +kernel
theorem dX0_add_25 : decode cX0_add 25 = .ok (.aload_n 0, 1) := by decide +kernel
theorem dX0_add_26 : decode cX0_add 26 = .ok (.getfield 54, 3) := by decide +kernel
theorem dX0_add_29 : decode cX0_add 29 = .ok (.iload_n 2, 1) := by decide +kernel
theorem dX0_add_30 : decode cX0_add 30 = .ok (.iastore, 1) := by decide +kernel
theorem dX0_add_31 : decode cX0_add 31 = .ok (.aload_n 0, 1) := by decide +kernel
theorem dX0_add_32 : decode cX0_add 32 = .ok (.getfield 18, 3) := by decide +kernel
theorem dX0_add_35 : decode cX0_add 35 = .ok (.aload_n 0, 1) := by decide +kernel
theorem dX0_add_36 : decode cX0_add 36 = .ok (.getfield 54, 3) := by decide +kernel
theorem dX0_add_39 : decode cX0_add 39 = .ok (.iload_n 3, 1) := by decide +kernel
theorem dX0_add_40 : decode cX0_add 40 = .ok (.iastore, 1) := by decide +kernel
theorem dX0_add_41 : decode cX0_add 41 = .ok (.aload_n 0, 1) := by decide +kernel
theorem dX0_add_42 : decode cX0_add 42 = .ok (.getfield 21, 3) := by decide +kernel
theorem dX0_add_45 : decode cX0_add 45 = .ok (.aload_n 0, 1) := by decide +kernel
theorem dX0_add_46 : decode cX0_add 46 = .ok (.getfield 54, 3) := by decide +kernel
theorem dX0_add_49 : decode cX0_add 49 = .ok (.iload 4, 2) := by decide +kernel
theorem dX0_add_51 : decode cX0_add 51 = .ok (.iastore, 1) := by decide +kernel
theorem dX0_add_52 : decode cX0_add 52 = .ok (.aload_n 0, 1) := by decide +kernel
theorem dX0_add_53 : decode cX0_add 53 = .ok (.getfield 24, 3) := by decide +kernel
theorem dX0_add_56 : decode cX0_add 56 = .ok (.aload_n 0, 1) := by decide +kernel
theorem dX0_add_57 : decode cX0_add 57 = .ok (.getfield 54, 3) := by decide +kernel
theorem dX0_add_60 : decode cX0_add 60 = .ok (.iload 5, 2) := by decide +kernel
theorem dX0_add_62 : decode cX0_add 62 = .ok (.iastore, 1) := by decide +kernel
theorem dX0_add_63 : decode cX0_add 63 = .ok (.aload_n 0, 1) := by decide +kernel
theorem dX0_add_64 : decode cX0_add 64 = .ok (.dup, 1) := by decide +kernel
theorem dX0_add_65 : decode cX0_add 65 = .ok (.getfield 54, 3) := by decide +kernel
theorem dX0_add_68 : decode cX0_add 68 = .ok (.iconst 1, 1) := by decide +kernel
theorem dX0_add_69 : decode cX0_add 69 = .ok (.iadd, 1) := by decide +kernel
theorem dX0_add_70 : decode cX0_add 70 = .ok (.putfield 54, 3) := by decide +kernel
theorem dX0_add_73 : decode cX0_add 73 = .ok (.return_, 1) := by decide +kernel
theorem dX0_addNumber_0 : decode cX0_addNumber 0 = .ok (.aload_n 0, 1) := by decide +kernel
theorem dX0_addNumber_1 : decode cX0_addNumber 1 = .ok (.iconst 0, 1) := by decide +kernel
theorem dX0_addNumber_2 : decode cX0_addNumber 2 = .ok (.lload_n 1, 1) := by decide +kernel
theorem dX0_addNumber_3 : decode cX0_addNumber 3 = .ok (.bipush 32, 2) := by decide +kernel
theorem dX0_addNumber_5 : decode cX0_addNumber 5 = .ok (.lshr, 1) := by decide +kernel
theorem dX0_addNumber_6 : decode cX0_addNumber 6 = .ok (.l2i, 1) := by decide +kernel
theorem dX0_addNumber_7 : decode cX0_addNumber 7 = .ok (.lload_n 1, 1) := by decide +kernel
theorem dX0_addNumber_8 : decode cX0_addNumber 8 = .ok (.l2i, 1) := by decide +kernel
theorem dX0_addNumber_9 : decode cX0_addNumber 9 = .ok (.iconst 0, 1) := by decide +kernel
theorem dX0_addNumber_10 : decode cX0_addNumber 10 = .ok (.iconst (-1), 1) := by decide +kernel
theorem dX0_addNumber_11 : decode cX0_addNumber 11 = .ok (.invokevirtual 67, 3) := by decide +kernel
theorem dX0_addNumber_14 : decode cX0_addNumber 14 = .ok (.return_, 1) := by decide +kernel
theorem dX0_addPlace_0 : decode cX0_addPlace 0 = .ok (.aload_n 0, 1) := by decide +kernel
theorem dX0_addPlace_1 : decode cX0_addPlace 1 = .ok (.getfield 61, 3) := by decide +kernel
theorem dX0_addPlace_4 : decode cX0_addPlace 4 = .ok (.istore 8, 2) := by decide +kernel
theorem dX0_addPlace_6 : decode cX0_addPlace 6 = .ok (.iload 4, 2) := by decide +kernel
theorem dX0_addPlace_8 : decode cX0_addPlace 8 = .ok (.bipush 15, 2) := by decide +kernel
theorem dX0_addPlace_10 : decode cX0_addPlace 10 = .ok (.iand, 1) := by decide +kernel
theorem dX0_addPlace_11 : decode cX0_addPlace 11 = .ok (.ifCond .le 7, 3) := by decide +kernel
theorem dX0_addPlace_14 : decode cX0_addPlace 14 = .ok (.iconst 1, 1) := by decide +kernel
theorem dX0_addPlace_15 : decode cX0_addPlace 15 = .ok (.goto 9, 3) := by decide +kernel
theorem dX0_addPlace_18 : decode cX0_addPlace 18 = .ok (.iconst 1, 1) := by decide +kernel
theorem dX0_addPlace_19 : decode cX0_addPlace 19 = .ok (.iload 6, 2) := by decide +kernel
theorem dX0_addPlace_21 : decode cX0_addPlace 21 = .ok (.ishl, 1) := by decide +kernel
theorem dX0_addPlace_22 : decode cX0_addPlace 22 = .ok (.iconst 1, 1) := by decide +kernel
theorem dX0_addPlace_23 : decode cX0_addPlace 23 = .ok (.isub, 1) := by decide +kernel
theorem dX0_addPlace_24 : decode cX0_addPlace 24 = .ok (.istore 9, 2) := by decide +kernel
theorem dX0_addPlace_26 : decode cX0_addPlace 26 = .ok (.aload_n 0, 1) := by decide +kernel
theorem dX0_addPlace_27 : decode cX0_addPlace 27 = .ok (.getfield 30, 3) := by decide +kernel
theorem dX0_addPlace_30 : decode cX0_addPlace 30 = .ok (.iload 8, 2) := by decide +kernel
theorem dX0_addPlace_32 : decode cX0_addPlace 32 = .ok (.iload_n 1, 1) := by decide +kernel
theorem dX0_addPlace_33 : decode cX0_addPlace 33 = .ok (.iastore, 1) := by decide +kernel
theorem dX0_addPlace_34 : decode cX0_addPlace 34 = .ok (.aload_n 0, 1) := by decide +kernel
theorem dX0_addPlace_35 : decode cX0_addPlace 35 = .ok (.getfield 33, 3) := by decide +kernel
theorem dX0_addPlace_38 : decode cX0_addPlace 38 = .ok (.iload 8, 2) := by decide +kernel
theorem dX0_addPlace_40 : decode cX0_addPlace 40 = .ok (.iload_n 2, 1) := by decide +kernel
theorem dX0_addPlace_41 : decode cX0_addPlace 41 = .ok (.iastore, 1) := by decide +kernel
theorem dX0_addPlace_42 : decode cX0_addPlace 42 = .ok (.aload_n 0, 1) := by decide +kernel
theorem dX0_addPlace_43 : decode cX0_addPlace 43 = .ok (.getfield 36, 3) := by decide +kernel
theorem dX0_addPlace_46 : decode cX0_addPlace 46 = .ok (.iload 8, 2) := by decide +kernel
theorem dX0_addPlace_48 : decode cX0_addPlace 48 = .ok (.iload_n 3, 1) := by decide +kernel
theorem dX0_addPlace_49 : decode cX0_addPlace 49 = .ok (.iastore, 1) := by decide +kernel
theorem dX0_addPlace_50 : decode cX0_addPlace 50 = .ok (.aload_n 0, 1) := by decide +kernel
theorem dX0_addPlace_51 : decode cX0_addPlace 51 = .ok (.getfield 39, 3) := by decide +kernel
theorem dX0_addPlace_54 : decode cX0_addPlace 54 = .ok (.iload 8, 2) := by decide +kernel
theorem dX0_addPlace_56 : decode cX0_addPlace 56 = .ok (.iload 4, 2) := by decide +kernel
theorem dX0_addPlace_58 : decode cX0_addPlace 58 = .ok (.iastore, 1) := by decide +kernel
theorem dX0_addPlace_59 : decode cX0_addPlace 59 = .ok (.aload_n 0, 1) := by decide +kernel
theorem dX0_addPlace_60 : decode cX0_addPlace 60 = .ok (.getfield 42, 3) := by decide +kernel
theorem dX0_addPlace_63 : decode cX0_addPlace 63 = .ok (.iload 8, 2) := by decide +kernel
theorem dX0_addPlace_65 : decode cX0_addPlace 65 = .ok (.iload 5, 2) := by decide +kernel
theorem dX0_addPlace_67 : decode cX0_addPlace 67 = .ok (.iastore, 1) := by decide +kernel
theorem dX0_addPlace_68 : decode cX0_addPlace 68 = .ok (.aload_n 0, 1) := by decide +kernel
theorem dX0_addPlace_69 : decode cX0_addPlace 69 = .ok (.getfield 45, 3) := by decide +kernel
theorem dX0_addPlace_72 : decode cX0_addPlace 72 = .ok (.iload 8, 2) := by decide +kernel
theorem dX0_addPlace_74 : decode cX0_addPlace 74 = .ok (.iload 7, 2) := by decide +kernel
theorem dX0_addPlace_76 : decode cX0_addPlace 76 = .ok (.iastore, 1) := by decide +kernel
theorem dX0_addPlace_77 : decode cX0_addPlace 77 = .ok (.aload_n 0, 1) := by decide +kernel
theorem dX0_addPlace_78 : decode cX0_addPlace 78 = .ok (.getfield 48, 3) := by decide +kernel
theorem dX0_addPlace_81 : decode cX0_addPlace 81 = .ok (.iload 8, 2) := by decide +kernel
theorem dX0_addPlace_83 : decode cX0_addPlace 83 = .ok (.iload 9, 2) := by decide +kernel
theorem dX0_addPlace_85 : decode cX0_addPlace 85 = .ok (.iload 4, 2) := by decide +kernel
theorem dX0_addPlace_87 : decode cX0_addPlace 87 = .ok (.iconst 4, 1) := by decide +kernel
theorem dX0_addPlace_88 : decode cX0_addPlace 88 = .ok (.ishr, 1) := by decide +kernel
theorem dX0_addPlace_89 : decode cX0_addPlace 89 = .ok (.bipush 15, 2) := by decide +kernel
theorem dX0_addPlace_91 : decode cX0_addPlace 91 = .ok (.iand, 1) := by decide +kernel
theorem dX0_addPlace_92 : decode cX0_addPlace 92 = .ok (.ishl, 1) := by decide +kernel
theorem dX0_addPlace_93 : decode cX0_addPlace 93 = .ok (.iastore, 1) := by decide +kernel
theorem dX0_addPlace_94 : decode cX0_addPlace 94 = .ok (.aload_n 0, 1) := by decide +kernel
theorem dX0_addPlace_95 : decode cX0_addPlace 95 = .ok (.getfield 61, 3) := by decide +kernel
theorem dX0_addPlace_98 : decode cX0_addPlace 98 = .ok (.sipush 3001, 3) := by decide +kernel
theorem dX0_addPlace_101 : decode cX0_addPlace 101 = .ok (.if_icmp .ge 13, 3) := by decide +kernel
theorem dX0_addPlace_104 : decode cX0_addPlace 104 = .ok (.aload_n 0, 1) := by decide +kernel
theorem dX0_addPlace_105 : decode cX0_addPlace 105 = .ok (.dup, 1) := by decide +kernel
theorem dX0_addPlace_106 : decode cX0_addPlace 106 = .ok (.getfield 61, 3) := by decide +kernel
theorem dX0_addPlace_109 : decode cX0_addPlace 109 = .ok (.iconst 1, 1) := by decide +kernel
theorem dX0_addPlace_110 : decode cX0_addPlace 110 = .ok (.iadd, 1) := by decide +kernel
theorem dX0_addPlace_111 : decode cX0_addPlace 111 = .ok (.putfield 61, 3) := by decide +kernel
theorem dX0_addPlace_114 : decode cX0_addPlace 114 = .ok (.iload 8, 2) := by decide +kernel
theorem dX0_addPlace_116 : decode cX0_addPlace 116 = .ok (.ireturn, 1) := by decide +kernel
theorem dX0_add__0 : decode cX0_add_ 0 = .ok (.aload_n 0, 1) := by decide +kernel
theorem dX0_add__1 : decode cX0_add_ 1 = .ok (.iload_n 1, 1) := by decide +kernel
theorem dX0_add__2 : decode cX0_add_ 2 = .ok (.iload_n 2, 1) := by decide +kernel
theorem dX0_add__3 : decode cX0_add_ 3 = .ok (.iconst 0, 1) := by decide +kernel
theorem dX0_add__4 : decode cX0_add_ 4 = .ok (.iconst 0, 1) := by decide +kernel
theorem dX0_add__5 : decode cX0_add_ 5 = .ok (.iconst (-1), 1) := by decide +kernel
theorem dX0_add__6 : decode cX0_add_ 6 = .ok (.invokevirtual 67, 3) := by decide +kernel
theorem dX0_add__9 : decode cX0_add_ 9 = .ok (.return_, 1) := by decide +kernel
theorem dX0_clear_0 : decode cX0_clear 0 = .ok (.aload_n 0, 1) := by decide +kernel
theorem dX0_clear_1 : decode cX0_clear 1 = .ok (.iconst 0, 1) := by decide +kernel
theorem dX0_clear_2 : decode cX0_clear 2 = .ok (.putfield 54, 3) := by decide +kernel
theorem dX0_clear_5 : decode cX0_clear 5 = .ok (.aload_n 0, 1) := by decide +kernel
theorem dX0_clear_6 : decode cX0_clear 6 = .ok (.iconst 0, 1) := by decide +kernel
theorem dX0_clear_7 : decode cX0_clear 7 = .ok (.putfield 58, 3) := by decide +kernel
theorem dX0_clear_10 : decode cX0_clear 10 = .ok (.aload_n 0, 1) := by decide +kernel
theorem dX0_clear_11 : decode cX0_clear 11 = .ok (.iconst 0, 1) := by decide +kernel
theorem dX0_clear_12 : decode cX0_clear 12 = .ok (.putfield 61, 3) := by decide +kernel
theorem dX0_clear_15 : decode cX0_clear 15 = .ok (.aload_n 0, 1) := by decide +kernel
theorem dX0_clear_16 : decode cX0_clear 16 = .ok (.iconst 0, 1) := by decide +kernel
theorem dX0_clear_17 : decode cX0_clear 17 = .ok (.putfield 64, 3) := by decide +kernel
theorem dX0_clear_20 : decode cX0_clear 20 = .ok (.return_, 1) := by decide +kernel
theorem dX0_hasStars_0 : decode cX0_hasStars 0 = .ok (.aload_n 0, 1) := by decide +kernel
theorem dX0_hasStars_1 : decode cX0_hasStars 1 = .ok (.getfield 39, 3) := by decide +kernel
theorem dX0_hasStars_4 : decode cX0_hasStars 4 = .ok (.iload_n 1, 1) := by decide +kernel
theorem dX0_hasStars_5 : decode cX0_hasStars 5 = .ok (.iaload, 1) := by decide +kernel
theorem dX0_hasStars_6 : decode cX0_hasStars 6 = .ok (.bipush 15, 2) := by decide +kernel
theorem dX0_hasStars_8 : decode cX0_hasStars 8 = .ok (.iand, 1) := by decide +kernel
theorem dX0_hasStars_9 : decode cX0_hasStars 9 = .ok (.ifCond .le 7, 3) := by decide +kernel
theorem dX0_hasStars_12 : decode cX0_hasStars 12 = .ok (.iconst 1, 1) := by decide +kernel
theorem dX0_hasStars_13 : decode cX0_hasStars 13 = .ok (.goto 4, 3) := by decide +kernel
theorem dX0_hasStars_16 : decode cX0_hasStars 16 = .ok (.iconst 0, 1) := by decide +kernel
theorem dX0_hasStars_17 : decode cX0_hasStars 17 = .ok (.ireturn, 1) := by decide +kernel
theorem dX0_init_0 : decode cX0_init 0 = .ok (.aload_n 0, 1) := by decide +kernel
theorem dX0_init_1 : decode cX0_init 1 = .ok (.invokespecial 3, 3) := by decide +kernel
theorem dX0_init_4 : decode cX0_init 4 = .ok (.aload_n 0, 1) := by decide +kernel
theorem dX0_init_5 : decode cX0_init 5 = .ok (.sipush 6000, 3) := by decide +kernel
theorem dX0_init_8 : decode cX0_init 8 = .ok (.newarray .int, 2) := by decide +kernel
theorem dX0_init_10 : decode cX0_init 10 = .ok (.putfield 9, 3) := by decide +kernel
theorem dX0_init_13 : decode cX0_init 13 = .ok (.aload_n 0, 1) := by decide +kernel
theorem dX0_init_14 : decode cX0_init 14 = .ok (.sipush 6000, 3) := by decide +kernel
theorem dX0_init_17 : decode cX0_init 17 = .ok (.newarray .int, 2) := by decide +kernel
theorem dX0_init_19 : decode cX0_init 19 = .ok (.putfield 15, 3) := by decide +kernel
theorem dX0_init_22 : decode cX0_init 22 = .ok (.aload_n 0, 1) := by decide +kernel
theorem dX0_init_23 : decode cX0_init 23 = .ok (.sipush 6000, 3) := by decide +kernel
theorem dX0_init_26 : decode cX0_init 26 = .ok (.newarray .int, 2) := by decide +kernel
theorem dX0_init_28 : decode cX0_init 28 = .ok (.putfield 18, 3) := by decide +kernel
theorem dX0_init_31 : decode cX0_init 31 = .ok (.aload_n 0, 1) := by decide +kernel
theorem dX0_init_32 : decode cX0_init 32 = .ok (.sipush 6000, 3) := by decide +kernel
theorem dX0_init_35 : decode cX0_init 35 = .ok (.newarray .int, 2) := by decide +kernel
theorem dX0_init_37 : decode cX0_init 37 = .ok (.putfield 21, 3) := by decide +kernel
theorem dX0_init_40 : decode cX0_init 40 = .ok (.aload_n 0, 1) := by decide +kernel
theorem dX0_init_41 : decode cX0_init 41 = .ok (.sipush 6000, 3) := by decide +kernel
theorem dX0_init_44 : decode cX0_init 44 = .ok (.newarray .int, 2) := by decide +kernel
theorem dX0_init_46 : decode cX0_init 46 = .ok (.putfield 24, 3) := by decide +kernel
theorem dX0_init_49 : decode cX0_init 49 = .ok (.aload_n 0, 1) := by decide +kernel
theorem dX0_init_50 : decode cX0_init 50 = .ok (.sipush 1100, 3) := by decide +kernel
theorem dX0_init_53 : decode cX0_init 53 = .ok (.newarray .int, 2) := by decide +kernel
theorem dX0_init_55 : decode cX0_init 55 = .ok (.putfield 27, 3) := by decide +kernel
theorem dX0_init_58 : decode cX0_init 58 = .ok (.aload_n 0, 1) := by decide +kernel
theorem dX0_init_59 : decode cX0_init 59 = .ok (.sipush 3002, 3) := by decide +kernel
theorem dX0_init_62 : decode cX0_init 62 = .ok (.newarray .int, 2) := by decide +kernel
theorem dX0_init_64 : decode cX0_init 64 = .ok (.putfield 30, 3) := by decide +kernel
theorem dX0_init_67 : decode cX0_init 67 = .ok (.aload_n 0, 1) := by decide +kernel
theorem dX0_init_68 : decode cX0_init 68 = .ok (.sipush 3002, 3) := by decide +kernel
theorem dX0_init_71 : decode cX0_init 71 = .ok (.newarray .int, 2) := by decide +kernel
theorem dX0_init_73 : decode cX0_init 73 = .ok (.putfield 33, 3) := by decide +kernel
theorem dX0_init_76 : decode cX0_init 76 = .ok (.aload_n 0, 1) := by decide +kernel
theorem dX0_init_77 : decode cX0_init 77 = .ok (.sipush 3002, 3) := by decide +kernel
theorem dX0_init_80 : decode cX0_init 80 = .ok (.newarray .int, 2) := by decide +kernel
theorem dX0_init_82 : decode cX0_init 82 = .ok (.putfield 36, 3) := by decide +kernel
theorem dX0_init_85 : decode cX0_init 85 = .ok (.aload_n 0, 1) := by decide +kernel
theorem dX0_init_86 : decode cX0_init 86 = .ok (.sipush 3002, 3) := by decide +kernel
theorem dX0_init_89 : decode cX0_init 89 = .ok (.newarray .int, 2) := by decide +kernel
theorem dX0_init_91 : decode cX0_init 91 = .ok (.putfield 39, 3) := by decide +kernel
theorem dX0_init_94 : decode cX0_init 94 = .ok (.aload_n 0, 1) := by decide +kernel
theorem dX0_init_95 : decode cX0_init 95 = .ok (.sipush 3002, 3) := by decide +kernel
theorem dX0_init_98 : decode cX0_init 98 = .ok (.newarray .int, 2) := by decide +kernel
theorem dX0_init_100 : decode cX0_init 100 = .ok (.putfield 42, 3) := by decide +kernel
theorem dX0_init_103 : decode cX0_init 103 = .ok (.aload_n 0, 1) := by decide +kernel
theorem dX0_init_104 : decode cX0_init 104 = .ok (.sipush 3002, 3) := by decide +kernel
theorem dX0_init_107 : decode cX0_init 107 = .ok (.newarray .int, 2) := by decide +kernel
theorem dX0_init_109 : decode cX0_init 109 = .ok (.putfield 45, 3) := by decide +kernel
theorem dX0_init_112 : decode cX0_init 112 = .ok (.aload_n 0, 1) := by decide +kernel
theorem dX0_init_113 : decode cX0_init 113 = .ok (.sipush 3002, 3) := by decide +kernel
theorem dX0_init_116 : decode cX0_init 116 = .ok (.newarray .int, 2) := by decide +kernel
theorem dX0_init_118 : decode cX0_init 118 = .ok (.putfield 48, 3) := by decide +kernel
theorem dX0_init_121 : decode cX0_init 121 = .ok (.aload_n 0, 1) := by decide +kernel
theorem dX0_init_122 : decode cX0_init 122 = .ok (.sipush 3002, 3) := by decide +kernel
theorem dX0_init_125 : decode cX0_init 125 = .ok (.newarray .int, 2) := by decide +kernel
theorem dX0_init_127 : decode cX0_init 127 = .ok (.putfield 51, 3) := by decide +kernel
theorem dX0_init_130 : decode cX0_init 130 = .ok (.return_, 1) := by decide +kernel
theorem dX0_newArms_0 : decode cX0_newArms 0 = .ok (.aload_n 0, 1) := by decide +kernel
theorem dX0_newArms_1 : decode cX0_newArms 1 = .ok (.getfield 64, 3) := by decide +kernel
theorem dX0_newArms_4 : decode cX0_newArms 4 = .ok (.istore_n 2, 1) := by decide +kernel
theorem dX0_newArms_5 : decode cX0_newArms 5 = .ok (.aload_n 0, 1) := by decide +kernel
theorem dX0_newArms_6 : decode cX0_newArms 6 = .ok (.aload_n 0, 1) := by decide +kernel
theorem dX0_newArms_7 : decode cX0_newArms 7 = .ok (.getfield 64, 3) := by decide +kernel
theorem dX0_newArms_10 : decode cX0_newArms 10 = .ok (.iload_n 1, 1) := by decide +kernel
theorem dX0_newArms_11 : decode cX0_newArms 11 = .ok (.iadd, 1) := by decide +kernel
theorem dX0_newArms_12 : decode cX0_newArms 12 = .ok (.sipush 2990, 3) := by decide +kernel
theorem dX0_newArms_15 : decode cX0_newArms 15 = .ok (.invokestatic 74, 3) := by decide +kernel
theorem dX0_newArms_18 : decode cX0_newArms 18 = .ok (.putfield 64, 3) := by decide +kernel
theorem dX0_newArms_21 : decode cX0_newArms 21 = .ok (.iload_n 2, 1) := by decide +kernel
theorem dX0_newArms_22 : decode cX0_newArms 22 = .ok (.ireturn, 1) := by decide +kernel
theorem dX0_newLabel_0 : decode cX0_newLabel 0 = .ok (.aload_n 0, 1) := by decide +kernel
theorem dX0_newLabel_1 : decode cX0_newLabel 1 = .ok (.getfield 58, 3) := by decide +kernel
theorem dX0_newLabel_4 : decode cX0_newLabel 4 = .ok (.sipush 1100, 3) := by decide +kernel
theorem dX0_newLabel_7 : decode cX0_newLabel 7 = .ok (.if_icmp .ge 13, 3) := by decide +kernel
theorem dX0_newLabel_10 : decode cX0_newLabel 10 = .ok (.aload_n 0, 1) := by decide +kernel
theorem dX0_newLabel_11 : decode cX0_newLabel 11 = .ok (.dup, 1) := by decide +kernel
theorem dX0_newLabel_12 : decode cX0_newLabel 12 = .ok (.getfield 58, 3) := by decide +kernel
theorem dX0_newLabel_15 : decode cX0_newLabel 15 = .ok (.iconst 1, 1) := by decide +kernel
theorem dX0_newLabel_16 : decode cX0_newLabel 16 = .ok (.iadd, 1) := by decide +kernel
theorem dX0_newLabel_17 : decode cX0_newLabel 17 = .ok (.putfield 58, 3) := by decide +kernel
theorem dX0_newLabel_20 : decode cX0_newLabel 20 = .ok (.aload_n 0, 1) := by decide +kernel
theorem dX0_newLabel_21 : decode cX0_newLabel 21 = .ok (.getfield 58, 3) := by decide +kernel
theorem dX0_newLabel_24 : decode cX0_newLabel 24 = .ok (.iconst 1, 1) := by decide +kernel
theorem dX0_newLabel_25 : decode cX0_newLabel 25 = .ok (.isub, 1) := by decide +kernel
theorem dX0_newLabel_26 : decode cX0_newLabel 26 = .ok (.ireturn, 1) := by decide +kernel
theorem dX0_setLabel_0 : decode cX0_setLabel 0 = .ok (.aload_n 0, 1) := by decide +kernel
theorem dX0_setLabel_1 : decode cX0_setLabel 1 = .ok (.getfield 27, 3) := by decide +kernel
theorem dX0_setLabel_4 : decode cX0_setLabel 4 = .ok (.iload_n 2, 1) := by decide +kernel
theorem dX0_setLabel_5 : decode cX0_setLabel 5 = .ok (.aload_n 0, 1) := by decide +kernel
theorem dX0_setLabel_6 : decode cX0_setLabel 6 = .ok (.getfield 54, 3) := by decide +kernel
theorem dX0_setLabel_9 : decode cX0_setLabel 9 = .ok (.iastore, 1) := by decide +kernel
theorem dX0_setLabel_10 : decode cX0_setLabel 10 = .ok (.aload_n 0, 1) := by decide +kernel
theorem dX0_setLabel_11 : decode cX0_setLabel 11 = .ok (.iload_n 1, 1) := by decide +kernel
theorem dX0_setLabel_12 : decode cX0_setLabel 12 = .ok (.iload_n 2, 1) := by decide +kernel
theorem dX0_setLabel_13 : decode cX0_setLabel 13 = .ok (.invokevirtual 71, 3) := by decide +kernel
theorem dX0_setLabel_16 : decode cX0_setLabel 16 = .ok (.return_, 1) := by decide +kernel
