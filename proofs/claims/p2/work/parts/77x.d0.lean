-- 77x.d0.lean.txt
section
theorem dX0_add_0 : decode cX0_add 0 = .ok (.aload_n 0, 1) := by decide +kernel
theorem dX0_add_1 : decode cX0_add 1 = .ok (.getfield 54, 3) := by decide +kernel
theorem dX0_add_4 : decode cX0_add 4 = .ok (.sipush 6000, 3) := by decide +kernel
theorem dX0_add_7 : decode cX0_add 7 = .ok (.if_icmp .ne 4, 3) := by decide +kernel
theorem dX0_add_10 : decode cX0_add 10 = .ok (.return_, 1) := by decide +kernel
theorem dX0_add_11 : decode cX0_add 11 = .ok (.aload_n 0, 1) := by decide +kernel
theorem dX0_add_12 : decode cX0_add 12 = .ok (.getfield 9, 3) := by decide +kernel
theorem dX0_add_15 : decode cX0_add 15 = .ok (.aload_n 0, 1) := by decide +kernel
theorem dX0_add_16 : decode cX0_add 16 = .ok (.getfield 54, 3) := by decide +kernel
theorem dX0_add_19 : decode cX0_add 19 = .ok (.iload_n 1, 1) := by decide +kernel
theorem dX0_add_20 : decode cX0_add 20 = .ok (.iastore, 1) := by decide +kernel
theorem dX0_add_21 : decode cX0_add 21 = .ok (.aload_n 0, 1) := by decide +kernel
theorem dX0_add_22 : decode cX0_add 22 = .ok (.getfield 15, 3) := by decide +kernel
theorem dX0_add_25 : decode cX0_add 25 = .ok (.aload_n 0, 1) := by decide +kernel
theorem dX0_add_26 : decode cX0_add 26 = .ok (.getfield 54, 3) := by decide +kernel
theorem dX0_add_29 : decode cX0_add 29 = .ok (.iload_n 2, 1) := by decide +kernel
theorem dX0_add_30 : decode cX0_add 30 = .ok (.iastore, 1) := by decide +kernel
theorem dX0_add_31 : decode cX0_add 31 = .ok (.aload_n 0, 1) := by decide +kernel
theorem dX0_add_32 : decode cX0_add 32 = .ok (.getfield 18, 3) := by decide +kernel
theorem dX0_add_35 : decode cX0_add 35 = .ok (.aload_n 0, 1) := by decide +kernel
theorem dX0_add_36 : decode cX0_add 36 = .ok (.getfield 54, 3) := by decide +kernel
theorem dX0_add_39 : decode cX0_add 39 = .ok (.iload_n 3, 1) := by decide +kernel
theorem dX0_add_40 : decode cX0_add 40 = .ok (.iastore, 1) := by decide +kernel
theorem dX0_add_41 : decode cX0_add 41 = .ok (.aload_n 0, 1) := by decide +kernel
theorem dX0_add_42 : decode cX0_add 42 = .ok (.getfield 21, 3) := by decide +kernel
theorem dX0_add_45 : decode cX0_add 45 = .ok (.aload_n 0, 1) := by decide +kernel
theorem dX0_add_46 : decode cX0_add 46 = .ok (.getfield 54, 3) := by decide +kernel
theorem dX0_add_49 : decode cX0_add 49 = .ok (.iload 4, 2) := by decide +kernel
theorem dX0_add_51 : decode cX0_add 51 = .ok (.iastore, 1) := by decide +kernel
theorem dX0_add_52 : decode cX0_add 52 = .ok (.aload_n 0, 1) := by decide +kernel
theorem dX0_add_53 : decode cX0_add 53 = .ok (.getfield 24, 3) := by decide +kernel
theorem dX0_add_56 : decode cX0_add 56 = .ok (.aload_n 0, 1) := by decide +kernel
theorem dX0_add_57 : decode cX0_add 57 = .ok (.getfield 54, 3) := by decide +kernel
theorem dX0_add_60 : decode cX0_add 60 = .ok (.iload 5, 2) := by decide +kernel
theorem dX0_add_62 : decode cX0_add 62 = .ok (.iastore, 1) := by decide +kernel
theorem dX0_add_63 : decode cX0_add 63 = .ok (.aload_n 0, 1) := by decide +kernel
theorem dX0_add_64 : decode cX0_add 64 = .ok (.dup, 1) := by decide +kernel
theorem dX0_add_65 : decode cX0_add 65 = .ok (.getfield 54, 3) := by decide +kernel
theorem dX0_add_68 : decode cX0_add 68 = .ok (.iconst 1, 1) := by decide +kernel
theorem dX0_add_69 : decode cX0_add 69 = .ok (.iadd, 1) := by decide +kernel
theorem dX0_add_70 : decode cX0_add 70 = .ok (.putfield 54, 3) := by decide +kernel
theorem dX0_add_73 : decode cX0_add 73 = .ok (.return_, 1) := by decide +kernel
theorem dX0_addNumber_0 : decode cX0_addNumber 0 = .ok (.aload_n 0, 1) := by decide +kernel
theorem dX0_addNumber_1 : decode cX0_addNumber 1 = .ok (.iconst 0, 1) := by decide +kernel
theorem dX0_addNumber_2 : decode cX0_addNumber 2 = .ok (.lload_n 1, 1) := by decide +kernel
theorem dX0_addNumber_3 : decode cX0_addNumber 3 = .ok (.bipush 32, 2) := by decide +kernel
theorem dX0_addNumber_5 : decode cX0_addNumber 5 = .ok (.lshr, 1) := by decide +kernel
theorem dX0_addNumber_6 : decode cX0_addNumber 6 = .ok (.l2i, 1) := by decide +kernel
theorem dX0_addNumber_7 : decode cX0_addNumber 7 = .ok (.lload_n 1, 1) := by decide +kernel
theorem dX0_addNumber_8 : decode cX0_addNumber 8 = .ok (.l2i, 1) := by decide +kernel
theorem dX0_addNumber_9 : decode cX0_addNumber 9 = .ok (.iconst 0, 1) := by decide +kernel
theorem dX0_addNumber_10 : decode cX0_addNumber 10 = .ok (.iconst (-1), 1) := by decide +kernel
theorem dX0_addNumber_11 : decode cX0_addNumber 11 = .ok (.invokevirtual 67, 3) := by decide +kernel
theorem dX0_addNumber_14 : decode cX0_addNumber 14 = .ok (.return_, 1) := by decide +kernel
theorem dX0_addPlace_0 : decode cX0_addPlace 0 = .ok (.aload_n 0, 1) := by decide +kernel
theorem dX0_addPlace_1 : decode cX0_addPlace 1 = .ok (.getfield 61, 3) := by decide +kernel
theorem dX0_addPlace_4 : decode cX0_addPlace 4 = .ok (.istore 8, 2) := by decide +kernel
theorem dX0_addPlace_6 : decode cX0_addPlace 6 = .ok (.iload 4, 2) := by decide +kernel
theorem dX0_addPlace_8 : decode cX0_addPlace 8 = .ok (.bipush 15, 2) := by decide +kernel
theorem dX0_addPlace_10 : decode cX0_addPlace 10 = .ok (.iand, 1) := by decide +kernel
theorem dX0_addPlace_11 : decode cX0_addPlace 11 = .ok (.ifCond .le 7, 3) := by decide +kernel
theorem dX0_addPlace_14 : decode cX0_addPlace 14 = .ok (.iconst 1, 1) := by decide +kernel
theorem dX0_addPlace_15 : decode cX0_addPlace 15 = .ok (.goto 9, 3) := by decide +kernel
theorem dX0_addPlace_18 : decode cX0_addPlace 18 = .ok (.iconst 1, 1) := by decide +kernel
theorem dX0_addPlace_19 : decode cX0_addPlace 19 = .ok (.iload 6, 2) := by decide +kernel
theorem dX0_addPlace_21 : decode cX0_addPlace 21 = .ok (.ishl, 1) := by decide +kernel
theorem dX0_addPlace_22 : decode cX0_addPlace 22 = .ok (.iconst 1, 1) := by decide +kernel
theorem dX0_addPlace_23 : decode cX0_addPlace 23 = .ok (.isub, 1) := by decide +kernel
theorem dX0_addPlace_24 : decode cX0_addPlace 24 = .ok (.istore 9, 2) := by decide +kernel
theorem dX0_addPlace_26 : decode cX0_addPlace 26 = .ok (.aload_n 0, 1) := by decide +kernel
theorem dX0_addPlace_27 : decode cX0_addPlace 27 = .ok (.getfield 30, 3) := by decide +kernel
theorem dX0_addPlace_30 : decode cX0_addPlace 30 = .ok (.iload 8, 2) := by decide +kernel
theorem dX0_addPlace_32 : decode cX0_addPlace 32 = .ok (.iload_n 1, 1) := by decide +kernel
theorem dX0_addPlace_33 : decode cX0_addPlace 33 = .ok (.iastore, 1) := by decide +kernel
theorem dX0_addPlace_34 : decode cX0_addPlace 34 = .ok (.aload_n 0, 1) := by decide +kernel
theorem dX0_addPlace_35 : decode cX0_addPlace 35 = .ok (.getfield 33, 3) := by decide +kernel
theorem dX0_addPlace_38 : decode cX0_addPlace 38 = .ok (.iload 8, 2) := by decide +kernel
theorem dX0_addPlace_40 : decode cX0_addPlace 40 = .ok (.iload_n 2, 1) := by decide +kernel
theorem dX0_addPlace_41 : decode cX0_addPlace 41 = .ok (.iastore, 1) := by decide +kernel
theorem dX0_addPlace_42 : decode cX0_addPlace 42 = .ok (.aload_n 0, 1) := by decide +kernel
theorem dX0_addPlace_43 : decode cX0_addPlace 43 = .ok (.getfield 36, 3) := by decide +kernel
theorem dX0_addPlace_46 : decode cX0_addPlace 46 = .ok (.iload 8, 2) := by decide +kernel
theorem dX0_addPlace_48 : decode cX0_addPlace 48 = .ok (.iload_n 3, 1) := by decide +kernel
theorem dX0_addPlace_49 : decode cX0_addPlace 49 = .ok (.iastore, 1) := by decide +kernel
theorem dX0_addPlace_50 : decode cX0_addPlace 50 = .ok (.aload_n 0, 1) := by decide +kernel
theorem dX0_addPlace_51 : decode cX0_addPlace 51 = .ok (.getfield 39, 3) := by decide +kernel
theorem dX0_addPlace_54 : decode cX0_addPlace 54 = .ok (.iload 8, 2) := by decide +kernel
theorem dX0_addPlace_56 : decode cX0_addPlace 56 = .ok (.iload 4, 2) := by decide +kernel
theorem dX0_addPlace_58 : decode cX0_addPlace 58 = .ok (.iastore, 1) := by decide +kernel
theorem dX0_addPlace_59 : decode cX0_addPlace 59 = .ok (.aload_n 0, 1) := by decide +kernel
theorem dX0_addPlace_60 : decode cX0_addPlace 60 = .ok (.getfield 42, 3) := by decide +kernel
theorem dX0_addPlace_63 : decode cX0_addPlace 63 = .ok (.iload 8, 2) := by decide +kernel
theorem dX0_addPlace_65 : decode cX0_addPlace 65 = .ok (.iload 5, 2) := by decide +kernel
theorem dX0_addPlace_67 : decode cX0_addPlace 67 = .ok (.iastore, 1) := by decide +kernel
theorem dX0_addPlace_68 : decode cX0_addPlace 68 = .ok (.aload_n 0, 1) := by decide +kernel
theorem dX0_addPlace_69 : decode cX0_addPlace 69 = .ok (.getfield 45, 3) := by decide +kernel
theorem dX0_addPlace_72 : decode cX0_addPlace 72 = .ok (.iload 8, 2) := by decide +kernel
theorem dX0_addPlace_74 : decode cX0_addPlace 74 = .ok (.iload 7, 2) := by decide +kernel
theorem dX0_addPlace_76 : decode cX0_addPlace 76 = .ok (.iastore, 1) := by decide +kernel
theorem dX0_addPlace_77 : decode cX0_addPlace 77 = .ok (.aload_n 0, 1) := by decide +kernel
theorem dX0_addPlace_78 : decode cX0_addPlace 78 = .ok (.getfield 48, 3) := by decide +kernel
theorem dX0_addPlace_81 : decode cX0_addPlace 81 = .ok (.iload 8, 2) := by decide +kernel
theorem dX0_addPlace_83 : decode cX0_addPlace 83 = .ok (.iload 9, 2) := by decide +kernel
theorem dX0_addPlace_85 : decode cX0_addPlace 85 = .ok (.iload 4, 2) := by decide +kernel
theorem dX0_addPlace_87 : decode cX0_addPlace 87 = .ok (.iconst 4, 1) := by decide +kernel
theorem dX0_addPlace_88 : decode cX0_addPlace 88 = .ok (.ishr, 1) := by decide +kernel
theorem dX0_addPlace_89 : decode cX0_addPlace 89 = .ok (.bipush 15, 2) := by decide +kernel
theorem dX0_addPlace_91 : decode cX0_addPlace 91 = .ok (.iand, 1) := by decide +kernel
theorem dX0_addPlace_92 : decode cX0_addPlace 92 = .ok (.ishl, 1) := by decide +kernel
theorem dX0_addPlace_93 : decode cX0_addPlace 93 = .ok (.iastore, 1) := by decide +kernel
theorem dX0_addPlace_94 : decode cX0_addPlace 94 = .ok (.aload_n 0, 1) := by decide +kernel
theorem dX0_addPlace_95 : decode cX0_addPlace 95 = .ok (.getfield 61, 3) := by decide +kernel
theorem dX0_addPlace_98 : decode cX0_addPlace 98 = .ok (.sipush 3001, 3) := by decide +kernel
theorem dX0_addPlace_101 : decode cX0_addPlace 101 = .ok (.if_icmp .ge 13, 3) := by decide +kernel
theorem dX0_addPlace_104 : decode cX0_addPlace 104 = .ok (.aload_n 0, 1) := by decide +kernel
theorem dX0_addPlace_105 : decode cX0_addPlace 105 = .ok (.dup, 1) := by decide +kernel
theorem dX0_addPlace_106 : decode cX0_addPlace 106 = .ok (.getfield 61, 3) := by decide +kernel
theorem dX0_addPlace_109 : decode cX0_addPlace 109 = .ok (.iconst 1, 1) := by decide +kernel
theorem dX0_addPlace_110 : decode cX0_addPlace 110 = .ok (.iadd, 1) := by decide +kernel
theorem dX0_addPlace_111 : decode cX0_addPlace 111 = .ok (.putfield 61, 3) := by decide +kernel
theorem dX0_addPlace_114 : decode cX0_addPlace 114 = .ok (.iload 8, 2) := by decide +kernel
theorem dX0_addPlace_116 : decode cX0_addPlace 116 = .ok (.ireturn, 1) := by decide +kernel
theorem dX0_add__0 : decode cX0_add_ 0 = .ok (.aload_n 0, 1) := by decide +kernel
theorem dX0_add__1 : decode cX0_add_ 1 = .ok (.iload_n 1, 1) := by decide +kernel
theorem dX0_add__2 : decode cX0_add_ 2 = .ok (.iload_n 2, 1) := by decide +kernel
theorem dX0_add__3 : decode cX0_add_ 3 = .ok (.iconst 0, 1) := by decide +kernel
theorem dX0_add__4 : decode cX0_add_ 4 = .ok (.iconst 0, 1) := by decide +kernel
theorem dX0_add__5 : decode cX0_add_ 5 = .ok (.iconst (-1), 1) := by decide +kernel
theorem dX0_add__6 : decode cX0_add_ 6 = .ok (.invokevirtual 67, 3) := by decide +kernel
theorem dX0_add__9 : decode cX0_add_ 9 = .ok (.return_, 1) := by decide +kernel
theorem dX0_clear_0 : decode cX0_clear 0 = .ok (.aload_n 0, 1) := by decide +kernel
theorem dX0_clear_1 : decode cX0_clear 1 = .ok (.iconst 0, 1) := by decide +kernel
theorem dX0_clear_2 : decode cX0_clear 2 = .ok (.putfield 54, 3) := by decide +kernel
theorem dX0_clear_5 : decode cX0_clear 5 = .ok (.aload_n 0, 1) := by decide +kernel
theorem dX0_clear_6 : decode cX0_clear 6 = .ok (.iconst 0, 1) := by decide +kernel
theorem dX0_clear_7 : decode cX0_clear 7 = .ok (.putfield 58, 3) := by decide +kernel
theorem dX0_clear_10 : decode cX0_clear 10 = .ok (.aload_n 0, 1) := by decide +kernel
theorem dX0_clear_11 : decode cX0_clear 11 = .ok (.iconst 0, 1) := by decide +kernel
theorem dX0_clear_12 : decode cX0_clear 12 = .ok (.putfield 61, 3) := by decide +kernel
theorem dX0_clear_15 : decode cX0_clear 15 = .ok (.aload_n 0, 1) := by decide +kernel
theorem dX0_clear_16 : decode cX0_clear 16 = .ok (.iconst 0, 1) := by decide +kernel
theorem dX0_clear_17 : decode cX0_clear 17 = .ok (.putfield 64, 3) := by decide +kernel
theorem dX0_clear_20 : decode cX0_clear 20 = .ok (.return_, 1) := by decide +kernel
theorem dX0_hasStars_0 : decode cX0_hasStars 0 = .ok (.aload_n 0, 1) := by decide +kernel
theorem dX0_hasStars_1 : decode cX0_hasStars 1 = .ok (.getfield 39, 3) := by decide +kernel
theorem dX0_hasStars_4 : decode cX0_hasStars 4 = .ok (.iload_n 1, 1) := by decide +kernel
theorem dX0_hasStars_5 : decode cX0_hasStars 5 = .ok (.iaload, 1) := by decide +kernel
theorem dX0_hasStars_6 : decode cX0_hasStars 6 = .ok (.bipush 15, 2) := by decide +kernel
theorem dX0_hasStars_8 : decode cX0_hasStars 8 = .ok (.iand, 1) := by decide +kernel
theorem dX0_hasStars_9 : decode cX0_hasStars 9 = .ok (.ifCond .le 7, 3) := by decide +kernel
theorem dX0_hasStars_12 : decode cX0_hasStars 12 = .ok (.iconst 1, 1) := by decide +kernel
theorem dX0_hasStars_13 : decode cX0_hasStars 13 = .ok (.goto 4, 3) := by decide +kernel
theorem dX0_hasStars_16 : decode cX0_hasStars 16 = .ok (.iconst 0, 1) := by decide +kernel
theorem dX0_hasStars_17 : decode cX0_hasStars 17 = .ok (.ireturn, 1) := by decide +kernel
theorem dX0_init_0 : decode cX0_init 0 = .ok (.aload_n 0, 1) := by decide +kernel
theorem dX0_init_1 : decode cX0_init 1 = .ok (.invokespecial 3, 3) := by decide +kernel
theorem dX0_init_4 : decode cX0_init 4 = .ok (.aload_n 0, 1) := by decide +kernel
theorem dX0_init_5 : decode cX0_init 5 = .ok (.sipush 6000, 3) := by decide +kernel
theorem dX0_init_8 : decode cX0_init 8 = .ok (.newarray .int, 2) := by decide +kernel
theorem dX0_init_10 : decode cX0_init 10 = .ok (.putfield 9, 3) := by decide +kernel
theorem dX0_init_13 : decode cX0_init 13 = .ok (.aload_n 0, 1) := by decide +kernel
theorem dX0_init_14 : decode cX0_init 14 = .ok (.sipush 6000, 3) := by decide +kernel
theorem dX0_init_17 : decode cX0_init 17 = .ok (.newarray .int, 2) := by decide +kernel
theorem dX0_init_19 : decode cX0_init 19 = .ok (.putfield 15, 3) := by decide +kernel
theorem dX0_init_22 : decode cX0_init 22 = .ok (.aload_n 0, 1) := by decide +kernel
theorem dX0_init_23 : decode cX0_init 23 = .ok (.sipush 6000, 3) := by decide +kernel
theorem dX0_init_26 : decode cX0_init 26 = .ok (.newarray .int, 2) := by decide +kernel
theorem dX0_init_28 : decode cX0_init 28 = .ok (.putfield 18, 3) := by decide +kernel
theorem dX0_init_31 : decode cX0_init 31 = .ok (.aload_n 0, 1) := by decide +kernel
theorem dX0_init_32 : decode cX0_init 32 = .ok (.sipush 6000, 3) := by decide +kernel
theorem dX0_init_35 : decode cX0_init 35 = .ok (.newarray .int, 2) := by decide +kernel
theorem dX0_init_37 : decode cX0_init 37 = .ok (.putfield 21, 3) := by decide +kernel
theorem dX0_init_40 : decode cX0_init 40 = .ok (.aload_n 0, 1) := by decide +kernel
theorem dX0_init_41 : decode cX0_init 41 = .ok (.sipush 6000, 3) := by decide +kernel
theorem dX0_init_44 : decode cX0_init 44 = .ok (.newarray .int, 2) := by decide +kernel
theorem dX0_init_46 : decode cX0_init 46 = .ok (.putfield 24, 3) := by decide +kernel
theorem dX0_init_49 : decode cX0_init 49 = .ok (.aload_n 0, 1) := by decide +kernel
theorem dX0_init_50 : decode cX0_init 50 = .ok (.sipush 1100, 3) := by decide +kernel
theorem dX0_init_53 : decode cX0_init 53 = .ok (.newarray .int, 2) := by decide +kernel
theorem dX0_init_55 : decode cX0_init 55 = .ok (.putfield 27, 3) := by decide +kernel
theorem dX0_init_58 : decode cX0_init 58 = .ok (.aload_n 0, 1) := by decide +kernel
theorem dX0_init_59 : decode cX0_init 59 = .ok (.sipush 3002, 3) := by decide +kernel
theorem dX0_init_62 : decode cX0_init 62 = .ok (.newarray .int, 2) := by decide +kernel
theorem dX0_init_64 : decode cX0_init 64 = .ok (.putfield 30, 3) := by decide +kernel
theorem dX0_init_67 : decode cX0_init 67 = .ok (.aload_n 0, 1) := by decide +kernel
theorem dX0_init_68 : decode cX0_init 68 = .ok (.sipush 3002, 3) := by decide +kernel
theorem dX0_init_71 : decode cX0_init 71 = .ok (.newarray .int, 2) := by decide +kernel
theorem dX0_init_73 : decode cX0_init 73 = .ok (.putfield 33, 3) := by decide +kernel
theorem dX0_init_76 : decode cX0_init 76 = .ok (.aload_n 0, 1) := by decide +kernel
theorem dX0_init_77 : decode cX0_init 77 = .ok (.sipush 3002, 3) := by decide +kernel
theorem dX0_init_80 : decode cX0_init 80 = .ok (.newarray .int, 2) := by decide +kernel
theorem dX0_init_82 : decode cX0_init 82 = .ok (.putfield 36, 3) := by decide +kernel
theorem dX0_init_85 : decode cX0_init 85 = .ok (.aload_n 0, 1) := by decide +kernel
theorem dX0_init_86 : decode cX0_init 86 = .ok (.sipush 3002, 3) := by decide +kernel
theorem dX0_init_89 : decode cX0_init 89 = .ok (.newarray .int, 2) := by decide +kernel
theorem dX0_init_91 : decode cX0_init 91 = .ok (.putfield 39, 3) := by decide +kernel
theorem dX0_init_94 : decode cX0_init 94 = .ok (.aload_n 0, 1) := by decide +kernel
theorem dX0_init_95 : decode cX0_init 95 = .ok (.sipush 3002, 3) := by decide +kernel
theorem dX0_init_98 : decode cX0_init 98 = .ok (.newarray .int, 2) := by decide +kernel
theorem dX0_init_100 : decode cX0_init 100 = .ok (.putfield 42, 3) := by decide +kernel
theorem dX0_init_103 : decode cX0_init 103 = .ok (.aload_n 0, 1) := by decide +kernel
theorem dX0_init_104 : decode cX0_init 104 = .ok (.sipush 3002, 3) := by decide +kernel
theorem dX0_init_107 : decode cX0_init 107 = .ok (.newarray .int, 2) := by decide +kernel
theorem dX0_init_109 : decode cX0_init 109 = .ok (.putfield 45, 3) := by decide +kernel
theorem dX0_init_112 : decode cX0_init 112 = .ok (.aload_n 0, 1) := by decide +kernel
theorem dX0_init_113 : decode cX0_init 113 = .ok (.sipush 3002, 3) := by decide +kernel
theorem dX0_init_116 : decode cX0_init 116 = .ok (.newarray .int, 2) := by decide +kernel
theorem dX0_init_118 : decode cX0_init 118 = .ok (.putfield 48, 3) := by decide +kernel
theorem dX0_init_121 : decode cX0_init 121 = .ok (.aload_n 0, 1) := by decide +kernel
theorem dX0_init_122 : decode cX0_init 122 = .ok (.sipush 3002, 3) := by decide +kernel
theorem dX0_init_125 : decode cX0_init 125 = .ok (.newarray .int, 2) := by decide +kernel
theorem dX0_init_127 : decode cX0_init 127 = .ok (.putfield 51, 3) := by decide +kernel
theorem dX0_init_130 : decode cX0_init 130 = .ok (.return_, 1) := by decide +kernel
theorem dX0_newArms_0 : decode cX0_newArms 0 = .ok (.aload_n 0, 1) := by decide +kernel
theorem dX0_newArms_1 : decode cX0_newArms 1 = .ok (.getfield 64, 3) := by decide +kernel
theorem dX0_newArms_4 : decode cX0_newArms 4 = .ok (.istore_n 2, 1) := by decide +kernel
theorem dX0_newArms_5 : decode cX0_newArms 5 = .ok (.aload_n 0, 1) := by decide +kernel
theorem dX0_newArms_6 : decode cX0_newArms 6 = .ok (.aload_n 0, 1) := by decide +kernel
theorem dX0_newArms_7 : decode cX0_newArms 7 = .ok (.getfield 64, 3) := by decide +kernel
theorem dX0_newArms_10 : decode cX0_newArms 10 = .ok (.iload_n 1, 1) := by decide +kernel
theorem dX0_newArms_11 : decode cX0_newArms 11 = .ok (.iadd, 1) := by decide +kernel
theorem dX0_newArms_12 : decode cX0_newArms 12 = .ok (.sipush 2990, 3) := by decide +kernel
theorem dX0_newArms_15 : decode cX0_newArms 15 = .ok (.invokestatic 74, 3) := by decide +kernel
theorem dX0_newArms_18 : decode cX0_newArms 18 = .ok (.putfield 64, 3) := by decide +kernel
theorem dX0_newArms_21 : decode cX0_newArms 21 = .ok (.iload_n 2, 1) := by decide +kernel
theorem dX0_newArms_22 : decode cX0_newArms 22 = .ok (.ireturn, 1) := by decide +kernel
theorem dX0_newLabel_0 : decode cX0_newLabel 0 = .ok (.aload_n 0, 1) := by decide +kernel
theorem dX0_newLabel_1 : decode cX0_newLabel 1 = .ok (.getfield 58, 3) := by decide +kernel
theorem dX0_newLabel_4 : decode cX0_newLabel 4 = .ok (.sipush 1100, 3) := by decide +kernel
theorem dX0_newLabel_7 : decode cX0_newLabel 7 = .ok (.if_icmp .ge 13, 3) := by decide +kernel
theorem dX0_newLabel_10 : decode cX0_newLabel 10 = .ok (.aload_n 0, 1) := by decide +kernel
theorem dX0_newLabel_11 : decode cX0_newLabel 11 = .ok (.dup, 1) := by decide +kernel
theorem dX0_newLabel_12 : decode cX0_newLabel 12 = .ok (.getfield 58, 3) := by decide +kernel
theorem dX0_newLabel_15 : decode cX0_newLabel 15 = .ok (.iconst 1, 1) := by decide +kernel
theorem dX0_newLabel_16 : decode cX0_newLabel 16 = .ok (.iadd, 1) := by decide +kernel
theorem dX0_newLabel_17 : decode cX0_newLabel 17 = .ok (.putfield 58, 3) := by decide +kernel
theorem dX0_newLabel_20 : decode cX0_newLabel 20 = .ok (.aload_n 0, 1) := by decide +kernel
theorem dX0_newLabel_21 : decode cX0_newLabel 21 = .ok (.getfield 58, 3) := by decide +kernel
theorem dX0_newLabel_24 : decode cX0_newLabel 24 = .ok (.iconst 1, 1) := by decide +kernel
theorem dX0_newLabel_25 : decode cX0_newLabel 25 = .ok (.isub, 1) := by decide +kernel
theorem dX0_newLabel_26 : decode cX0_newLabel 26 = .ok (.ireturn, 1) := by decide +kernel
theorem dX0_setLabel_0 : decode cX0_setLabel 0 = .ok (.aload_n 0, 1) := by decide +kernel
theorem dX0_setLabel_1 : decode cX0_setLabel 1 = .ok (.getfield 27, 3) := by decide +kernel
theorem dX0_setLabel_4 : decode cX0_setLabel 4 = .ok (.iload_n 2, 1) := by decide +kernel
theorem dX0_setLabel_5 : decode cX0_setLabel 5 = .ok (.aload_n 0, 1) := by decide +kernel
theorem dX0_setLabel_6 : decode cX0_setLabel 6 = .ok (.getfield 54, 3) := by decide +kernel
theorem dX0_setLabel_9 : decode cX0_setLabel 9 = .ok (.iastore, 1) := by decide +kernel
theorem dX0_setLabel_10 : decode cX0_setLabel 10 = .ok (.aload_n 0, 1) := by decide +kernel
theorem dX0_setLabel_11 : decode cX0_setLabel 11 = .ok (.iload_n 1, 1) := by decide +kernel
theorem dX0_setLabel_12 : decode cX0_setLabel 12 = .ok (.iload_n 2, 1) := by decide +kernel
theorem dX0_setLabel_13 : decode cX0_setLabel 13 = .ok (.invokevirtual 71, 3) := by decide +kernel
theorem dX0_setLabel_16 : decode cX0_setLabel 16 = .ok (.return_, 1) := by decide +kernel
end
-- 77x.d2.lean.txt
section
theorem dX2_begin_0 : decode cX2_begin 0 = .ok (.aload_n 0, 1) := by decide +kernel
theorem dX2_begin_1 : decode cX2_begin 1 = .ok (.iload_n 1, 1) := by decide +kernel
theorem dX2_begin_2 : decode cX2_begin 2 = .ok (.putfield 37, 3) := by decide +kernel
theorem dX2_begin_5 : decode cX2_begin 5 = .ok (.aload_n 0, 1) := by decide +kernel
theorem dX2_begin_6 : decode cX2_begin 6 = .ok (.iconst 0, 1) := by decide +kernel
theorem dX2_begin_7 : decode cX2_begin 7 = .ok (.putfield 41, 3) := by decide +kernel
theorem dX2_begin_10 : decode cX2_begin 10 = .ok (.aload_n 0, 1) := by decide +kernel
theorem dX2_begin_11 : decode cX2_begin 11 = .ok (.iconst 0, 1) := by decide +kernel
theorem dX2_begin_12 : decode cX2_begin 12 = .ok (.putfield 44, 3) := by decide +kernel
theorem dX2_begin_15 : decode cX2_begin 15 = .ok (.aload_n 0, 1) := by decide +kernel
theorem dX2_begin_16 : decode cX2_begin 16 = .ok (.iconst 0, 1) := by decide +kernel
theorem dX2_begin_17 : decode cX2_begin 17 = .ok (.putfield 47, 3) := by decide +kernel
theorem dX2_begin_20 : decode cX2_begin 20 = .ok (.aload_n 0, 1) := by decide +kernel
theorem dX2_begin_21 : decode cX2_begin 21 = .ok (.iconst (-1), 1) := by decide +kernel
theorem dX2_begin_22 : decode cX2_begin 22 = .ok (.putfield 50, 3) := by decide +kernel
theorem dX2_begin_25 : decode cX2_begin 25 = .ok (.aload_n 0, 1) := by decide +kernel
theorem dX2_begin_26 : decode cX2_begin 26 = .ok (.iconst 0, 1) := by decide +kernel
theorem dX2_begin_27 : decode cX2_begin 27 = .ok (.putfield 53, 3) := by decide +kernel
theorem dX2_begin_30 : decode cX2_begin 30 = .ok (.aload_n 0, 1) := by decide +kernel
theorem dX2_begin_31 : decode cX2_begin 31 = .ok (.iconst 0, 1) := by decide +kernel
theorem dX2_begin_32 : decode cX2_begin 32 = .ok (.putfield 56, 3) := by decide +kernel
theorem dX2_begin_35 : decode cX2_begin 35 = .ok (.aload_n 0, 1) := by decide +kernel
theorem dX2_begin_36 : decode cX2_begin 36 = .ok (.iconst 0, 1) := by decide +kernel
theorem dX2_begin_37 : decode cX2_begin 37 = .ok (.putfield 59, 3) := by decide +kernel
theorem dX2_begin_40 : decode cX2_begin 40 = .ok (.return_, 1) := by decide +kernel
theorem dX2_close_0 : decode cX2_close 0 = .ok (.iload_n 1, 1) := by decide +kernel
theorem dX2_close_1 : decode cX2_close 1 = .ok (.istore_n 3, 1) := by decide +kernel
theorem dX2_close_2 : decode cX2_close 2 = .ok (.iload_n 3, 1) := by decide +kernel
theorem dX2_close_3 : decode cX2_close 3 = .ok (.aload_n 0, 1) := by decide +kernel
theorem dX2_close_4 : decode cX2_close 4 = .ok (.getfield 53, 3) := by decide +kernel
theorem dX2_close_7 : decode cX2_close 7 = .ok (.if_icmp .ge 25, 3) := by decide +kernel
theorem dX2_close_10 : decode cX2_close 10 = .ok (.aload_n 0, 1) := by decide +kernel
theorem dX2_close_11 : decode cX2_close 11 = .ok (.getfield 34, 3) := by decide +kernel
theorem dX2_close_14 : decode cX2_close 14 = .ok (.iload_n 3, 1) := by decide +kernel
theorem dX2_close_15 : decode cX2_close 15 = .ok (.aload_n 0, 1) := by decide +kernel
theorem dX2_close_16 : decode cX2_close 16 = .ok (.getfield 34, 3) := by decide +kernel
theorem dX2_close_19 : decode cX2_close 19 = .ok (.iload_n 3, 1) := by decide +kernel
theorem dX2_close_20 : decode cX2_close 20 = .ok (.iaload, 1) := by decide +kernel
theorem dX2_close_21 : decode cX2_close 21 = .ok (.iload_n 2, 1) := by decide +kernel
theorem dX2_close_22 : decode cX2_close 22 = .ok (.invokestatic 63, 3) := by decide +kernel
theorem dX2_close_25 : decode cX2_close 25 = .ok (.iastore, 1) := by decide +kernel
theorem dX2_close_26 : decode cX2_close 26 = .ok (.iinc 3 1, 3) := by decide +kernel
theorem dX2_close_29 : decode cX2_close 29 = .ok (.goto (-27), 3) := by decide +kernel
theorem dX2_close_32 : decode cX2_close 32 = .ok (.return_, 1) := by decide +kernel
theorem dX2_declare_0 : decode cX2_declare 0 = .ok (.aload_n 0, 1) := by decide +kernel
theorem dX2_declare_1 : decode cX2_declare 1 = .ok (.getfield 53, 3) := by decide +kernel
theorem dX2_declare_4 : decode cX2_declare 4 = .ok (.istore 4, 2) := by decide +kernel
theorem dX2_declare_6 : decode cX2_declare 6 = .ok (.aload_n 0, 1) := by decide +kernel
theorem dX2_declare_7 : decode cX2_declare 7 = .ok (.getfield 18, 3) := by decide +kernel
theorem dX2_declare_10 : decode cX2_declare 10 = .ok (.iload 4, 2) := by decide +kernel
theorem dX2_declare_12 : decode cX2_declare 12 = .ok (.iload_n 1, 1) := by decide +kernel
theorem dX2_declare_13 : decode cX2_declare 13 = .ok (.iastore, 1) := by decide +kernel
theorem dX2_declare_14 : decode cX2_declare 14 = .ok (.aload_n 0, 1) := by decide +kernel
theorem dX2_declare_15 : decode cX2_declare 15 = .ok (.getfield 21, 3) := by decide +kernel
theorem dX2_declare_18 : decode cX2_declare 18 = .ok (.iload 4, 2) := by decide +kernel
theorem dX2_declare_20 : decode cX2_declare 20 = .ok (.iconst (-1), 1) := by decide +kernel
theorem dX2_declare_21 : decode cX2_declare 21 = .ok (.iastore, 1) := by decide +kernel
theorem dX2_declare_22 : decode cX2_declare 22 = .ok (.aload_n 0, 1) := by decide +kernel
theorem dX2_declare_23 : decode cX2_declare 23 = .ok (.getfield 24, 3) := by decide +kernel
theorem dX2_declare_26 : decode cX2_declare 26 = .ok (.iload 4, 2) := by decide +kernel
theorem dX2_declare_28 : decode cX2_declare 28 = .ok (.iload_n 2, 1) := by decide +kernel
theorem dX2_declare_29 : decode cX2_declare 29 = .ok (.bastore, 1) := by decide +kernel
theorem dX2_declare_30 : decode cX2_declare 30 = .ok (.aload_n 0, 1) := by decide +kernel
theorem dX2_declare_31 : decode cX2_declare 31 = .ok (.getfield 28, 3) := by decide +kernel
theorem dX2_declare_34 : decode cX2_declare 34 = .ok (.iload 4, 2) := by decide +kernel
theorem dX2_declare_36 : decode cX2_declare 36 = .ok (.iconst 0, 1) := by decide +kernel
theorem dX2_declare_37 : decode cX2_declare 37 = .ok (.iastore, 1) := by decide +kernel
theorem dX2_declare_38 : decode cX2_declare 38 = .ok (.aload_n 0, 1) := by decide +kernel
theorem dX2_declare_39 : decode cX2_declare 39 = .ok (.getfield 31, 3) := by decide +kernel
theorem dX2_declare_42 : decode cX2_declare 42 = .ok (.iload 4, 2) := by decide +kernel
theorem dX2_declare_44 : decode cX2_declare 44 = .ok (.iload_n 3, 1) := by decide +kernel
theorem dX2_declare_45 : decode cX2_declare 45 = .ok (.iastore, 1) := by decide +kernel
theorem dX2_declare_46 : decode cX2_declare 46 = .ok (.aload_n 0, 1) := by decide +kernel
theorem dX2_declare_47 : decode cX2_declare 47 = .ok (.getfield 34, 3) := by decide +kernel
theorem dX2_declare_50 : decode cX2_declare 50 = .ok (.iload 4, 2) := by decide +kernel
theorem dX2_declare_52 : decode cX2_declare 52 = .ok (.ldc 62, 2) := by decide +kernel
theorem dX2_declare_54 : decode cX2_declare 54 = .ok (.iastore, 1) := by decide +kernel
theorem dX2_declare_55 : decode cX2_declare 55 = .ok (.aload_n 0, 1) := by decide +kernel
theorem dX2_declare_56 : decode cX2_declare 56 = .ok (.dup, 1) := by decide +kernel
theorem dX2_declare_57 : decode cX2_declare 57 = .ok (.getfield 53, 3) := by decide +kernel
theorem dX2_declare_60 : decode cX2_declare 60 = .ok (.iconst 1, 1) := by decide +kernel
theorem dX2_declare_61 : decode cX2_declare 61 = .ok (.iadd, 1) := by decide +kernel
theorem dX2_declare_62 : decode cX2_declare 62 = .ok (.putfield 53, 3) := by decide +kernel
theorem dX2_declare_65 : decode cX2_declare 65 = .ok (.iload 4, 2) := by decide +kernel
theorem dX2_declare_67 : decode cX2_declare 67 = .ok (.ireturn, 1) := by decide +kernel
theorem dX2_find_0 : decode cX2_find 0 = .ok (.aload_n 0, 1) := by decide +kernel
theorem dX2_find_1 : decode cX2_find 1 = .ok (.getfield 53, 3) := by decide +kernel
theorem dX2_find_4 : decode cX2_find 4 = .ok (.iconst 1, 1) := by decide +kernel
theorem dX2_find_5 : decode cX2_find 5 = .ok (.isub, 1) := by decide +kernel
theorem dX2_find_6 : decode cX2_find 6 = .ok (.istore_n 2, 1) := by decide +kernel
theorem dX2_find_7 : decode cX2_find 7 = .ok (.iload_n 2, 1) := by decide +kernel
theorem dX2_find_8 : decode cX2_find 8 = .ok (.ifCond .lt 32, 3) := by decide +kernel
theorem dX2_find_11 : decode cX2_find 11 = .ok (.aload_n 0, 1) := by decide +kernel
theorem dX2_find_12 : decode cX2_find 12 = .ok (.getfield 18, 3) := by decide +kernel
theorem dX2_find_15 : decode cX2_find 15 = .ok (.iload_n 2, 1) := by decide +kernel
theorem dX2_find_16 : decode cX2_find 16 = .ok (.iaload, 1) := by decide +kernel
theorem dX2_find_17 : decode cX2_find 17 = .ok (.iload_n 1, 1) := by decide +kernel
theorem dX2_find_18 : decode cX2_find 18 = .ok (.if_icmp .ne 16, 3) := by decide +kernel
theorem dX2_find_21 : decode cX2_find 21 = .ok (.aload_n 0, 1) := by decide +kernel
theorem dX2_find_22 : decode cX2_find 22 = .ok (.getfield 34, 3) := by decide +kernel
theorem dX2_find_25 : decode cX2_find 25 = .ok (.iload_n 2, 1) := by decide +kernel
theorem dX2_find_26 : decode cX2_find 26 = .ok (.iaload, 1) := by decide +kernel
theorem dX2_find_27 : decode cX2_find 27 = .ok (.ldc 62, 2) := by decide +kernel
theorem dX2_find_29 : decode cX2_find 29 = .ok (.if_icmp .ne 5, 3) := by decide +kernel
theorem dX2_find_32 : decode cX2_find 32 = .ok (.iload_n 2, 1) := by decide +kernel
theorem dX2_find_33 : decode cX2_find 33 = .ok (.ireturn, 1) := by decide +kernel
theorem dX2_find_34 : decode cX2_find 34 = .ok (.iinc 2 (-1), 3) := by decide +kernel
theorem dX2_find_37 : decode cX2_find 37 = .ok (.goto (-30), 3) := by decide +kernel
theorem dX2_find_40 : decode cX2_find 40 = .ok (.iconst (-1), 1) := by decide +kernel
theorem dX2_find_41 : decode cX2_find 41 = .ok (.ireturn, 1) := by decide +kernel
theorem dX2_init_0 : decode cX2_init 0 = .ok (.aload_n 0, 1) := by decide +kernel
theorem dX2_init_1 : decode cX2_init 1 = .ok (.invokespecial 3, 3) := by decide +kernel
theorem dX2_init_4 : decode cX2_init 4 = .ok (.aload_n 0, 1) := by decide +kernel
theorem dX2_init_5 : decode cX2_init 5 = .ok (.bipush 8, 2) := by decide +kernel
theorem dX2_init_7 : decode cX2_init 7 = .ok (.newarray .int, 2) := by decide +kernel
theorem dX2_init_9 : decode cX2_init 9 = .ok (.putfield 9, 3) := by decide +kernel
theorem dX2_init_12 : decode cX2_init 12 = .ok (.aload_n 0, 1) := by decide +kernel
theorem dX2_init_13 : decode cX2_init 13 = .ok (.bipush 12, 2) := by decide +kernel
theorem dX2_init_15 : decode cX2_init 15 = .ok (.newarray .int, 2) := by decide +kernel
theorem dX2_init_17 : decode cX2_init 17 = .ok (.putfield 15, 3) := by decide +kernel
theorem dX2_init_20 : decode cX2_init 20 = .ok (.aload_n 0, 1) := by decide +kernel
theorem dX2_init_21 : decode cX2_init 21 = .ok (.bipush 40, 2) := by decide +kernel
theorem dX2_init_23 : decode cX2_init 23 = .ok (.newarray .int, 2) := by decide +kernel
theorem dX2_init_25 : decode cX2_init 25 = .ok (.putfield 18, 3) := by decide +kernel
theorem dX2_init_28 : decode cX2_init 28 = .ok (.aload_n 0, 1) := by decide +kernel
theorem dX2_init_29 : decode cX2_init 29 = .ok (.bipush 40, 2) := by decide +kernel
theorem dX2_init_31 : decode cX2_init 31 = .ok (.newarray .int, 2) := by decide +kernel
theorem dX2_init_33 : decode cX2_init 33 = .ok (.putfield 21, 3) := by decide +kernel
theorem dX2_init_36 : decode cX2_init 36 = .ok (.aload_n 0, 1) := by decide +kernel
theorem dX2_init_37 : decode cX2_init 37 = .ok (.bipush 40, 2) := by decide +kernel
theorem dX2_init_39 : decode cX2_init 39 = .ok (.newarray .boolean, 2) := by decide +kernel
theorem dX2_init_41 : decode cX2_init 41 = .ok (.putfield 24, 3) := by decide +kernel
theorem dX2_init_44 : decode cX2_init 44 = .ok (.aload_n 0, 1) := by decide +kernel
theorem dX2_init_45 : decode cX2_init 45 = .ok (.bipush 40, 2) := by decide +kernel
theorem dX2_init_47 : decode cX2_init 47 = .ok (.newarray .int, 2) := by decide +kernel
theorem dX2_init_49 : decode cX2_init 49 = .ok (.putfield 28, 3) := by decide +kernel
theorem dX2_init_52 : decode cX2_init 52 = .ok (.aload_n 0, 1) := by decide +kernel
theorem dX2_init_53 : decode cX2_init 53 = .ok (.bipush 40, 2) := by decide +kernel
theorem dX2_init_55 : decode cX2_init 55 = .ok (.newarray .int, 2) := by decide +kernel
theorem dX2_init_57 : decode cX2_init 57 = .ok (.putfield 31, 3) := by decide +kernel
theorem dX2_init_60 : decode cX2_init 60 = .ok (.aload_n 0, 1) := by decide +kernel
theorem dX2_init_61 : decode cX2_init 61 = .ok (.bipush 40, 2) := by decide +kernel
theorem dX2_init_63 : decode cX2_init 63 = .ok (.newarray .int, 2) := by decide +kernel
theorem dX2_init_65 : decode cX2_init 65 = .ok (.putfield 34, 3) := by decide +kernel
theorem dX2_init_68 : decode cX2_init 68 = .ok (.return_, 1) := by decide +kernel
theorem dX2_lifeOf_0 : decode cX2_lifeOf 0 = .ok (.iconst 0, 1) := by decide +kernel
theorem dX2_lifeOf_1 : decode cX2_lifeOf 1 = .ok (.istore_n 2, 1) := by decide +kernel
theorem dX2_lifeOf_2 : decode cX2_lifeOf 2 = .ok (.iload_n 2, 1) := by decide +kernel
theorem dX2_lifeOf_3 : decode cX2_lifeOf 3 = .ok (.aload_n 0, 1) := by decide +kernel
theorem dX2_lifeOf_4 : decode cX2_lifeOf 4 = .ok (.getfield 41, 3) := by decide +kernel
theorem dX2_lifeOf_7 : decode cX2_lifeOf 7 = .ok (.if_icmp .ge 21, 3) := by decide +kernel
theorem dX2_lifeOf_10 : decode cX2_lifeOf 10 = .ok (.aload_n 0, 1) := by decide +kernel
theorem dX2_lifeOf_11 : decode cX2_lifeOf 11 = .ok (.getfield 9, 3) := by decide +kernel
theorem dX2_lifeOf_14 : decode cX2_lifeOf 14 = .ok (.iload_n 2, 1) := by decide +kernel
theorem dX2_lifeOf_15 : decode cX2_lifeOf 15 = .ok (.iaload, 1) := by decide +kernel
theorem dX2_lifeOf_16 : decode cX2_lifeOf 16 = .ok (.iload_n 1, 1) := by decide +kernel
theorem dX2_lifeOf_17 : decode cX2_lifeOf 17 = .ok (.if_icmp .ne 5, 3) := by decide +kernel
theorem dX2_lifeOf_20 : decode cX2_lifeOf 20 = .ok (.iload_n 2, 1) := by decide +kernel
theorem dX2_lifeOf_21 : decode cX2_lifeOf 21 = .ok (.ireturn, 1) := by decide +kernel
theorem dX2_lifeOf_22 : decode cX2_lifeOf 22 = .ok (.iinc 2 1, 3) := by decide +kernel
theorem dX2_lifeOf_25 : decode cX2_lifeOf 25 = .ok (.goto (-23), 3) := by decide +kernel
theorem dX2_lifeOf_28 : decode cX2_lifeOf 28 = .ok (.iconst (-1), 1) := by decide +kernel
theorem dX2_lifeOf_29 : decode cX2_lifeOf 29 = .ok (.ireturn, 1) := by decide +kernel
theorem dX2_settle_0 : decode cX2_settle 0 = .ok (.aload_n 0, 1) := by decide +kernel
theorem dX2_settle_1 : decode cX2_settle 1 = .ok (.getfield 21, 3) := by decide +kernel
theorem dX2_settle_4 : decode cX2_settle 4 = .ok (.iload_n 1, 1) := by decide +kernel
theorem dX2_settle_5 : decode cX2_settle 5 = .ok (.iload_n 2, 1) := by decide +kernel
theorem dX2_settle_6 : decode cX2_settle 6 = .ok (.iastore, 1) := by decide +kernel
theorem dX2_settle_7 : decode cX2_settle 7 = .ok (.aload_n 0, 1) := by decide +kernel
theorem dX2_settle_8 : decode cX2_settle 8 = .ok (.getfield 28, 3) := by decide +kernel
theorem dX2_settle_11 : decode cX2_settle 11 = .ok (.iload_n 1, 1) := by decide +kernel
theorem dX2_settle_12 : decode cX2_settle 12 = .ok (.aload_n 0, 1) := by decide +kernel
theorem dX2_settle_13 : decode cX2_settle 13 = .ok (.getfield 56, 3) := by decide +kernel
theorem dX2_settle_16 : decode cX2_settle 16 = .ok (.iastore, 1) := by decide +kernel
theorem dX2_settle_17 : decode cX2_settle 17 = .ok (.aload_n 0, 1) := by decide +kernel
theorem dX2_settle_18 : decode cX2_settle 18 = .ok (.dup, 1) := by decide +kernel
theorem dX2_settle_19 : decode cX2_settle 19 = .ok (.getfield 56, 3) := by decide +kernel
theorem dX2_settle_22 : decode cX2_settle 22 = .ok (.iload_n 3, 1) := by decide +kernel
theorem dX2_settle_23 : decode cX2_settle 23 = .ok (.iadd, 1) := by decide +kernel
theorem dX2_settle_24 : decode cX2_settle 24 = .ok (.putfield 56, 3) := by decide +kernel
theorem dX2_settle_27 : decode cX2_settle 27 = .ok (.return_, 1) := by decide +kernel
end
-- 77x.d8.lean.txt
section
theorem dX8_init_0 : decode cX8_init 0 = .ok (.aload_n 0, 1) := by decide +kernel
theorem dX8_init_1 : decode cX8_init 1 = .ok (.invokespecial 1, 3) := by decide +kernel
theorem dX8_init_4 : decode cX8_init 4 = .ok (.aload_n 0, 1) := by decide +kernel
theorem dX8_init_5 : decode cX8_init 5 = .ok (.bipush 20, 2) := by decide +kernel
theorem dX8_init_7 : decode cX8_init 7 = .ok (.newarray .byte, 2) := by decide +kernel
theorem dX8_init_9 : decode cX8_init 9 = .ok (.putfield 7, 3) := by decide +kernel
theorem dX8_init_12 : decode cX8_init 12 = .ok (.aload_n 0, 1) := by decide +kernel
theorem dX8_init_13 : decode cX8_init 13 = .ok (.iload_n 1, 1) := by decide +kernel
theorem dX8_init_14 : decode cX8_init 14 = .ok (.newarray .long, 2) := by decide +kernel
theorem dX8_init_16 : decode cX8_init 16 = .ok (.putfield 13, 3) := by decide +kernel
theorem dX8_init_19 : decode cX8_init 19 = .ok (.return_, 1) := by decide +kernel
theorem dX8_put_0 : decode cX8_put 0 = .ok (.aload_n 0, 1) := by decide +kernel
theorem dX8_put_1 : decode cX8_put 1 = .ok (.getfield 17, 3) := by decide +kernel
theorem dX8_put_4 : decode cX8_put 4 = .ok (.aload_n 0, 1) := by decide +kernel
theorem dX8_put_5 : decode cX8_put 5 = .ok (.getfield 13, 3) := by decide +kernel
theorem dX8_put_8 : decode cX8_put 8 = .ok (.arraylength, 1) := by decide +kernel
theorem dX8_put_9 : decode cX8_put 9 = .ok (.if_icmp .ne 5, 3) := by decide +kernel
theorem dX8_put_12 : decode cX8_put 12 = .ok (.iconst 0, 1) := by decide +kernel
theorem dX8_put_13 : decode cX8_put 13 = .ok (.ireturn, 1) := by decide +kernel
theorem dX8_put_14 : decode cX8_put 14 = .ok (.aload_n 0, 1) := by decide +kernel
theorem dX8_put_15 : decode cX8_put 15 = .ok (.getfield 13, 3) := by decide +kernel
theorem dX8_put_18 : decode cX8_put 18 = .ok (.aload_n 0, 1) := by decide +kernel
theorem dX8_put_19 : decode cX8_put 19 = .ok (.getfield 21, 3) := by decide +kernel
theorem dX8_put_22 : decode cX8_put 22 = .ok (.aload_n 0, 1) := by decide +kernel
theorem dX8_put_23 : decode cX8_put 23 = .ok (.getfield 17, 3) := by decide +kernel
theorem dX8_put_26 : decode cX8_put 26 = .ok (.iadd, 1) := by decide +kernel
theorem dX8_put_27 : decode cX8_put 27 = .ok (.aload_n 0, 1) := by decide +kernel
theorem dX8_put_28 : decode cX8_put 28 = .ok (.getfield 13, 3) := by decide +kernel
theorem dX8_put_31 : decode cX8_put 31 = .ok (.arraylength, 1) := by decide +kernel
theorem dX8_put_32 : decode cX8_put 32 = .ok (.irem, 1) := by decide +kernel
theorem dX8_put_33 : decode cX8_put 33 = .ok (.lload_n 1, 1) := by decide +kernel
theorem dX8_put_34 : decode cX8_put 34 = .ok (.lastore, 1) := by decide +kernel
theorem dX8_put_35 : decode cX8_put 35 = .ok (.aload_n 0, 1) := by decide +kernel
theorem dX8_put_36 : decode cX8_put 36 = .ok (.dup, 1) := by decide +kernel
theorem dX8_put_37 : decode cX8_put 37 = .ok (.getfield 17, 3) := by decide +kernel
theorem dX8_put_40 : decode cX8_put 40 = .ok (.iconst 1, 1) := by decide +kernel
theorem dX8_put_41 : decode cX8_put 41 = .ok (.iadd, 1) := by decide +kernel
theorem dX8_put_42 : decode cX8_put 42 = .ok (.putfield 17, 3) := by decide +kernel
theorem dX8_put_45 : decode cX8_put 45 = .ok (.iconst 1, 1) := by decide +kernel
theorem dX8_put_46 : decode cX8_put 46 = .ok (.ireturn, 1) := by decide +kernel
theorem dX8_putNumber_0 : decode cX8_putNumber 0 = .ok (.iconst 0, 1) := by decide +kernel
theorem dX8_putNumber_1 : decode cX8_putNumber 1 = .ok (.istore_n 3, 1) := by decide +kernel
theorem dX8_putNumber_2 : decode cX8_putNumber 2 = .ok (.lload_n 1, 1) := by decide +kernel
theorem dX8_putNumber_3 : decode cX8_putNumber 3 = .ok (.lstore 4, 2) := by decide +kernel
theorem dX8_putNumber_5 : decode cX8_putNumber 5 = .ok (.lload 4, 2) := by decide +kernel
theorem dX8_putNumber_7 : decode cX8_putNumber 7 = .ok (.lconst 0, 1) := by decide +kernel
theorem dX8_putNumber_8 : decode cX8_putNumber 8 = .ok (.lcmp, 1) := by decide +kernel
theorem dX8_putNumber_9 : decode cX8_putNumber 9 = .ok (.ifCond .le 8, 3) := by decide +kernel
theorem dX8_putNumber_12 : decode cX8_putNumber 12 = .ok (.lload 4, 2) := by decide +kernel
theorem dX8_putNumber_14 : decode cX8_putNumber 14 = .ok (.lneg, 1) := by decide +kernel
theorem dX8_putNumber_15 : decode cX8_putNumber 15 = .ok (.lstore 4, 2) := by decide +kernel
theorem dX8_putNumber_17 : decode cX8_putNumber 17 = .ok (.aload_n 0, 1) := by decide +kernel
theorem dX8_putNumber_18 : decode cX8_putNumber 18 = .ok (.getfield 7, 3) := by decide +kernel
theorem dX8_putNumber_21 : decode cX8_putNumber 21 = .ok (.iload_n 3, 1) := by decide +kernel
theorem dX8_putNumber_22 : decode cX8_putNumber 22 = .ok (.ldc2_w 38, 3) := by decide +kernel
theorem dX8_putNumber_25 : decode cX8_putNumber 25 = .ok (.lload 4, 2) := by decide +kernel
theorem dX8_putNumber_27 : decode cX8_putNumber 27 = .ok (.ldc2_w 40, 3) := by decide +kernel
theorem dX8_putNumber_30 : decode cX8_putNumber 30 = .ok (.lrem, 1) := by decide +kernel
theorem dX8_putNumber_31 : decode cX8_putNumber 31 = .ok (.lsub, 1) := by decide +kernel
theorem dX8_putNumber_32 : decode cX8_putNumber 32 = .ok (.l2i, 1) := by decide +kernel
theorem dX8_putNumber_33 : decode cX8_putNumber 33 = .ok (.i2b, 1) := by decide +kernel
theorem dX8_putNumber_34 : decode cX8_putNumber 34 = .ok (.bastore, 1) := by decide +kernel
theorem dX8_putNumber_35 : decode cX8_putNumber 35 = .ok (.lload 4, 2) := by decide +kernel
theorem dX8_putNumber_37 : decode cX8_putNumber 37 = .ok (.ldc2_w 40, 3) := by decide +kernel
theorem dX8_putNumber_40 : decode cX8_putNumber 40 = .ok (.ldiv, 1) := by decide +kernel
theorem dX8_putNumber_41 : decode cX8_putNumber 41 = .ok (.lstore 4, 2) := by decide +kernel
theorem dX8_putNumber_43 : decode cX8_putNumber 43 = .ok (.iinc 3 1, 3) := by decide +kernel
theorem dX8_putNumber_46 : decode cX8_putNumber 46 = .ok (.lload 4, 2) := by decide +kernel
theorem dX8_putNumber_48 : decode cX8_putNumber 48 = .ok (.lconst 0, 1) := by decide +kernel
theorem dX8_putNumber_49 : decode cX8_putNumber 49 = .ok (.lcmp, 1) := by decide +kernel
theorem dX8_putNumber_50 : decode cX8_putNumber 50 = .ok (.ifCond .eq 12, 3) := by decide +kernel
theorem dX8_putNumber_53 : decode cX8_putNumber 53 = .ok (.iload_n 3, 1) := by decide +kernel
theorem dX8_putNumber_54 : decode cX8_putNumber 54 = .ok (.aload_n 0, 1) := by decide +kernel
theorem dX8_putNumber_55 : decode cX8_putNumber 55 = .ok (.getfield 7, 3) := by decide +kernel
theorem dX8_putNumber_58 : decode cX8_putNumber 58 = .ok (.arraylength, 1) := by decide +kernel
theorem dX8_putNumber_59 : decode cX8_putNumber 59 = .ok (.if_icmp .lt (-42), 3) := by decide +kernel
theorem dX8_putNumber_62 : decode cX8_putNumber 62 = .ok (.lload_n 1, 1) := by decide +kernel
theorem dX8_putNumber_63 : decode cX8_putNumber 63 = .ok (.lconst 0, 1) := by decide +kernel
theorem dX8_putNumber_64 : decode cX8_putNumber 64 = .ok (.lcmp, 1) := by decide +kernel
theorem dX8_putNumber_65 : decode cX8_putNumber 65 = .ok (.ifCond .ge 11, 3) := by decide +kernel
theorem dX8_putNumber_68 : decode cX8_putNumber 68 = .ok (.aload_n 0, 1) := by decide +kernel
theorem dX8_putNumber_69 : decode cX8_putNumber 69 = .ok (.ldc2_w 42, 3) := by decide +kernel
theorem dX8_putNumber_72 : decode cX8_putNumber 72 = .ok (.invokevirtual 34, 3) := by decide +kernel
theorem dX8_putNumber_75 : decode cX8_putNumber 75 = .ok (.pop, 1) := by decide +kernel
theorem dX8_putNumber_76 : decode cX8_putNumber 76 = .ok (.iload_n 3, 1) := by decide +kernel
theorem dX8_putNumber_77 : decode cX8_putNumber 77 = .ok (.iconst 1, 1) := by decide +kernel
theorem dX8_putNumber_78 : decode cX8_putNumber 78 = .ok (.isub, 1) := by decide +kernel
theorem dX8_putNumber_79 : decode cX8_putNumber 79 = .ok (.istore 6, 2) := by decide +kernel
theorem dX8_putNumber_81 : decode cX8_putNumber 81 = .ok (.iload 6, 2) := by decide +kernel
theorem dX8_putNumber_83 : decode cX8_putNumber 83 = .ok (.ifCond .lt 22, 3) := by decide +kernel
theorem dX8_putNumber_86 : decode cX8_putNumber 86 = .ok (.aload_n 0, 1) := by decide +kernel
theorem dX8_putNumber_87 : decode cX8_putNumber 87 = .ok (.aload_n 0, 1) := by decide +kernel
theorem dX8_putNumber_88 : decode cX8_putNumber 88 = .ok (.getfield 7, 3) := by decide +kernel
theorem dX8_putNumber_91 : decode cX8_putNumber 91 = .ok (.iload 6, 2) := by decide +kernel
theorem dX8_putNumber_93 : decode cX8_putNumber 93 = .ok (.baload, 1) := by decide +kernel
theorem dX8_putNumber_94 : decode cX8_putNumber 94 = .ok (.i2l, 1) := by decide +kernel
theorem dX8_putNumber_95 : decode cX8_putNumber 95 = .ok (.invokevirtual 34, 3) := by decide +kernel
theorem dX8_putNumber_98 : decode cX8_putNumber 98 = .ok (.pop, 1) := by decide +kernel
theorem dX8_putNumber_99 : decode cX8_putNumber 99 = .ok (.iinc 6 (-1), 3) := by decide +kernel
theorem dX8_putNumber_102 : decode cX8_putNumber 102 = .ok (.goto (-21), 3) := by decide +kernel
theorem dX8_putNumber_105 : decode cX8_putNumber 105 = .ok (.return_, 1) := by decide +kernel
theorem dX8_putText_0 : decode cX8_putText 0 = .ok (.iconst 0, 1) := by decide +kernel
theorem dX8_putText_1 : decode cX8_putText 1 = .ok (.istore_n 2, 1) := by decide +kernel
theorem dX8_putText_2 : decode cX8_putText 2 = .ok (.iload_n 2, 1) := by decide +kernel
theorem dX8_putText_3 : decode cX8_putText 3 = .ok (.aload_n 1, 1) := by decide +kernel
theorem dX8_putText_4 : decode cX8_putText 4 = .ok (.invokevirtual 24, 3) := by decide +kernel
theorem dX8_putText_7 : decode cX8_putText 7 = .ok (.if_icmp .ge 20, 3) := by decide +kernel
theorem dX8_putText_10 : decode cX8_putText 10 = .ok (.aload_n 0, 1) := by decide +kernel
theorem dX8_putText_11 : decode cX8_putText 11 = .ok (.aload_n 1, 1) := by decide +kernel
theorem dX8_putText_12 : decode cX8_putText 12 = .ok (.iload_n 2, 1) := by decide +kernel
theorem dX8_putText_13 : decode cX8_putText 13 = .ok (.invokevirtual 30, 3) := by decide +kernel
theorem dX8_putText_16 : decode cX8_putText 16 = .ok (.i2l, 1) := by decide +kernel
theorem dX8_putText_17 : decode cX8_putText 17 = .ok (.invokevirtual 34, 3) := by decide +kernel
theorem dX8_putText_20 : decode cX8_putText 20 = .ok (.pop, 1) := by decide +kernel
theorem dX8_putText_21 : decode cX8_putText 21 = .ok (.iinc 2 1, 3) := by decide +kernel
theorem dX8_putText_24 : decode cX8_putText 24 = .ok (.goto (-22), 3) := by decide +kernel
theorem dX8_putText_27 : decode cX8_putText 27 = .ok (.return_, 1) := by decide +kernel
theorem dX8_take_0 : decode cX8_take 0 = .ok (.aload_n 0, 1) := by decide +kernel
theorem dX8_take_1 : decode cX8_take 1 = .ok (.getfield 17, 3) := by decide +kernel
theorem dX8_take_4 : decode cX8_take 4 = .ok (.ifCond .ne 5, 3) := by decide +kernel
theorem dX8_take_7 : decode cX8_take 7 = .ok (.lconst 0, 1) := by decide +kernel
theorem dX8_take_8 : decode cX8_take 8 = .ok (.lreturn, 1) := by decide +kernel
theorem dX8_take_9 : decode cX8_take 9 = .ok (.aload_n 0, 1) := by decide +kernel
theorem dX8_take_10 : decode cX8_take 10 = .ok (.getfield 13, 3) := by decide +kernel
theorem dX8_take_13 : decode cX8_take 13 = .ok (.aload_n 0, 1) := by decide +kernel
theorem dX8_take_14 : decode cX8_take 14 = .ok (.getfield 21, 3) := by decide +kernel
theorem dX8_take_17 : decode cX8_take 17 = .ok (.laload, 1) := by decide +kernel
theorem dX8_take_18 : decode cX8_take 18 = .ok (.lstore_n 1, 1) := by decide +kernel
theorem dX8_take_19 : decode cX8_take 19 = .ok (.aload_n 0, 1) := by decide +kernel
theorem dX8_take_20 : decode cX8_take 20 = .ok (.aload_n 0, 1) := by decide +kernel
theorem dX8_take_21 : decode cX8_take 21 = .ok (.getfield 21, 3) := by decide +kernel
theorem dX8_take_24 : decode cX8_take 24 = .ok (.iconst 1, 1) := by decide +kernel
theorem dX8_take_25 : decode cX8_take 25 = .ok (.iadd, 1) := by decide +kernel
theorem dX8_take_26 : decode cX8_take 26 = .ok (.aload_n 0, 1) := by decide +kernel
theorem dX8_take_27 : decode cX8_take 27 = .ok (.getfield 13, 3) := by decide +kernel
theorem dX8_take_30 : decode cX8_take 30 = .ok (.arraylength, 1) := by decide +kernel
theorem dX8_take_31 : decode cX8_take 31 = .ok (.irem, 1) := by decide +kernel
theorem dX8_take_32 : decode cX8_take 32 = .ok (.putfield 21, 3) := by decide +kernel
theorem dX8_take_35 : decode cX8_take 35 = .ok (.aload_n 0, 1) := by decide +kernel
theorem dX8_take_36 : decode cX8_take 36 = .ok (.dup, 1) := by decide +kernel
theorem dX8_take_37 : decode cX8_take 37 = .ok (.getfield 17, 3) := by decide +kernel
theorem dX8_take_40 : decode cX8_take 40 = .ok (.iconst 1, 1) := by decide +kernel
theorem dX8_take_41 : decode cX8_take 41 = .ok (.isub, 1) := by decide +kernel
theorem dX8_take_42 : decode cX8_take 42 = .ok (.putfield 17, 3) := by decide +kernel
theorem dX8_take_45 : decode cX8_take 45 = .ok (.lload_n 1, 1) := by decide +kernel
theorem dX8_take_46 : decode cX8_take 46 = .ok (.lreturn, 1) := by decide +kernel
end
-- 78.queue.lean.txt
section
def wf_c_put : List Cond := [.code yX8_put cX8_put 3 (some .boolean), .fieldLink RX8 17 "OwnedPlaces$Queue" "size" "I", .fieldLink RX8 13 "OwnedPlaces$Queue" "row" "[J", .fieldLink RX8 21 "OwnedPlaces$Queue" "first" "I"]
def wp_c_put : List Cond := wf_c_put ++ (wsX80 ++ [])
theorem in_c_put_X8 : ∀ w ∈ wsX80, w ∈ wp_c_put := fun w h => List.mem_append_right _ (List.mem_append_left _ h)
theorem wg_c_put : wf_c_put.all goodWord = true := by decide +kernel
theorem wm_c_put (k : Nat) {w : Cond} (h : wp_c_put[k]? = some w) : w ∈ wp_c_put := List.mem_of_getElem? h
set_option maxHeartbeats 4000000 in
set_option maxRecDepth 100000 in
theorem c_put (l : Launch) (dC : Nat → ClassId) (dI : Nat → Nat → Nat) (q qr qd N fi qz : Nat) (kL : ClassId) (fr : Nat → Int64) (v : Int64) (sz : Nat) (hN0 : 0 < N) (hN : N ≤ 4000) (hfi : fi < N) (hqz : qz ≤ N) : Met l yX8_put wp_c_put ({ frames := 0, cells := 0, slots := 0, locals := 0 }) (va_Pc [.ref q, .long v] (fun U => U.heap.size = sz ∧ va_P (dC, dI) vwCl [(q, .inr (8, [.ref qr, .ref qd, .int (nI fi), .int (nI qz)])), (qr, .inl (kL, N, .inr (.inl fr)))] U.heap ∧ va_K (dC, dI) vwCl [(kL, .long)] U ∧ va_D (fun _ => True) [(q, .inr (8, [.ref qr, .ref qd, .int (nI fi), .int (nI qz)])), (qr, .inl (kL, N, .inr (.inl fr)))])) (va_Qi (fun (r : Int32) (_ : Unit) => r = 0 ∨ r = 1) (fun (_ : Unit) (tS : State) => ∃ (qz2 : Nat) (gr : Nat → Int64), (qz2 ≤ N) ∧ va_P (dC, dI) vwCl [(q, .inr (8, [.ref qr, .ref qd, .int (nI fi), .int (nI qz2)])), (qr, .inl (kL, N, .inr (.inl gr)))] tS.heap ∧ va_K (dC, dI) vwCl [(kL, .long)] tS ∧ va_D (va_A [(q, .inr (8, [.ref qr, .ref qd, .int (nI fi), .int (nI qz)])), (qr, .inl (kL, N, .inr (.inl fr)))] sz) [(q, .inr (8, [.ref qr, .ref qd, .int (nI fi), .int (nI qz2)])), (qr, .inl (kL, N, .inr (.inl gr)))]) (va_A [(q, .inr (8, [.ref qr, .ref qd, .int (nI fi), .int (nI qz)])), (qr, .inl (kL, N, .inr (.inl fr)))] sz)) 0 0 (va_A [(q, .inr (8, [.ref qr, .ref qd, .int (nI fi), .int (nI qz)])), (qr, .inl (kL, N, .inr (.inl fr)))] sz) := by
  refine Met.ofW (cc := cX8_put) (maxL := 3) (ret := (some .boolean)) (by decide) rfl ?_
  intro p e s m args below meth c s₁ B hml hv
  obtain ⟨rfl, hsz, hP, hK, hD0⟩ := hv
  have hx := B.exec
  have hb := B.bytes
  have hr := B.returns
  have hts := atoms_spec (ws := wp_c_put) B.pre
  have hown : s.vm.findClass RX8 = some m.cls := findClass_of_methodNamed B.named
  have hlocks := B.notSynchronized
  subst hsz
  have hD := hD0.self (sz := s.heap.size)
  generalize hAe : va_A [(q, .inr (8, [.ref qr, .ref qd, .int (nI fi), .int (nI qz)])), (qr, .inl (kL, N, .inr (.inl fr)))] s.heap.size = A at hD ⊢
  have hA : ∀ q : Nat, s.heap.size ≤ q → A q := fun q h => by rw [← hAe]; exact Or.inr h
  have hS : va_S A s.heap s.heap [] := va_S.rf
  have hP : va_P (dC, dI) vwCl [(q, .inr (8, [.ref qr, .ref qd, .int (nI fi), .int (nI qz)])), (qr, .inl (kL, N, .inr (.inl fr)))] s.heap := hP
  have hl := lv_entry ([.ref q, .long v]) (n := 3) (Nat.le_of_ble_eq_true rfl)
  rw [lg_entry_eq]
  generalize (lg_sl ([.ref q, .long v]) ++ List.replicate (3 - (lg_sl ([.ref q, .long v])).length) Slot.unset).toArray = ls at hl ⊢
  have hl : lv_has ls 3 [(0, .ref q), (1, .long v)] := hl
  refine lv_aload_n hx hb dX8_put_0 rfl (lv_at hl 0 rfl) ?_
  refine va_get (D := (dC, dI)) (ci := 8) (v := .int (nI qz)) (C := RX8) (T := TX8) (N := 4) hx hb hts in_c_put_X8 hown hK hP 0 rfl rfl 3 (by decide) (hts (.fieldLink RX8 17 "OwnedPlaces$Queue" "size" "I") (wm_c_put 1 rfl)) (fun _ h9 => h9) rfl dX8_put_1 ?_
  refine lv_aload_n hx hb dX8_put_4 rfl (lv_at hl 0 rfl) ?_
  refine va_get (D := (dC, dI)) (ci := 8) (v := .ref qr) (C := RX8) (T := TX8) (N := 4) hx hb hts in_c_put_X8 hown hK hP 0 rfl rfl 0 (by decide) (hts (.fieldLink RX8 13 "OwnedPlaces$Queue" "row" "[J") (wm_c_put 2 rfl)) (fun _ h9 => h9) rfl dX8_put_5 ?_
  refine va_alen (v := nI N) hx hb hK hP 1 0 rfl rfl rfl dX8_put_8 ?_
  refine lv_icmp_ne (tgt := 14) hx hb dX8_put_9 (by decide) (fun hc => ?_) (fun hc => ?_)
  · have hlt : qz < N := by rcases Nat.lt_or_ge qz N with z9 | z9; exact z9; exact absurd (show nI qz = nI N by rw [show qz = N by omega]) hc
    refine lv_aload_n hx hb dX8_put_14 rfl (lv_at hl 0 rfl) ?_
    refine va_get (D := (dC, dI)) (ci := 8) (v := .ref qr) (C := RX8) (T := TX8) (N := 4) hx hb hts in_c_put_X8 hown hK hP 0 rfl rfl 0 (by decide) (hts (.fieldLink RX8 13 "OwnedPlaces$Queue" "row" "[J") (wm_c_put 2 rfl)) (fun _ h9 => h9) rfl dX8_put_15 ?_
    refine lv_aload_n hx hb dX8_put_18 rfl (lv_at hl 0 rfl) ?_
    refine va_get (D := (dC, dI)) (ci := 8) (v := .int (nI fi)) (C := RX8) (T := TX8) (N := 4) hx hb hts in_c_put_X8 hown hK hP 0 rfl rfl 2 (by decide) (hts (.fieldLink RX8 21 "OwnedPlaces$Queue" "first" "I") (wm_c_put 3 rfl)) (fun _ h9 => h9) rfl dX8_put_19 ?_
    refine lv_aload_n hx hb dX8_put_22 rfl (lv_at hl 0 rfl) ?_
    refine va_get (D := (dC, dI)) (ci := 8) (v := .int (nI qz)) (C := RX8) (T := TX8) (N := 4) hx hb hts in_c_put_X8 hown hK hP 0 rfl rfl 3 (by decide) (hts (.fieldLink RX8 17 "OwnedPlaces$Queue" "size" "I") (wm_c_put 1 rfl)) (fun _ h9 => h9) rfl dX8_put_23 ?_
    refine lv_iadd hx hb dX8_put_26 ?_
    refine lv_topi (fun f_1 ef_1 => ?_)
    obtain rfl : f_1 = nI (fi + qz) := ef_1.trans (nI_add _ _)
    refine lv_aload_n hx hb dX8_put_27 rfl (lv_at hl 0 rfl) ?_
    refine va_get (D := (dC, dI)) (ci := 8) (v := .ref qr) (C := RX8) (T := TX8) (N := 4) hx hb hts in_c_put_X8 hown hK hP 0 rfl rfl 0 (by decide) (hts (.fieldLink RX8 13 "OwnedPlaces$Queue" "row" "[J") (wm_c_put 2 rfl)) (fun _ h9 => h9) rfl dX8_put_28 ?_
    refine va_alen (v := nI N) hx hb hK hP 1 0 rfl rfl rfl dX8_put_31 ?_
    refine lv_irem hx hb dX8_put_32 (nI_ne0 hN0 (by omega)) ?_
    refine lv_topi (fun f_2 ef_2 => ?_)
    obtain rfl : f_2 = nI ((fi + qz) % N) := ef_2.trans (pk_rem (by omega) hN0 (by omega))
    refine lv_lload_n hx hb dX8_put_33 rfl (lv_at hl 1 rfl) ?_
    have hmod : (fi + qz) % N < N := Nat.mod_lt _ hN0
    refine va_last hx hb hK hP hD hS 1 0 rfl rfl (vp_in_nI hmod (by omega)) dX8_put_34 (fun H locs hP hD hS => ?_)
    have hP : va_P (dC, dI) vwCl [(q, .inr (8, [.ref qr, .ref qd, .int (nI fi), .int (nI qz)])), (qr, .inl (kL, N, .inr (.inl (vp_updL fr (nI ((fi + qz) % N) : Int32).toNatClampNeg v))))] H := hP
    have hD : va_D A [(q, .inr (8, [.ref qr, .ref qd, .int (nI fi), .int (nI qz)])), (qr, .inl (kL, N, .inr (.inl (vp_updL fr (nI ((fi + qz) % N) : Int32).toNatClampNeg v))))] := hD
    obtain ⟨gr1, egr1⟩ : ∃ zZ : Nat → Int64, zZ = vp_updL fr (nI ((fi + qz) % N) : Int32).toNatClampNeg v := ⟨_, rfl⟩
    rw [← egr1] at hP hD
    refine lv_aload_n hx hb dX8_put_35 rfl (lv_at hl 0 rfl) ?_
    refine lv_dup hx hb dX8_put_36 rfl ?_
    refine va_get (D := (dC, dI)) (ci := 8) (v := .int (nI qz)) (C := RX8) (T := TX8) (N := 4) hx hb hts in_c_put_X8 hown hK hP 0 rfl rfl 3 (by decide) (hts (.fieldLink RX8 17 "OwnedPlaces$Queue" "size" "I") (wm_c_put 1 rfl)) (fun _ h9 => h9) rfl dX8_put_37 ?_
    refine lv_iconst (v := 1) hx hb dX8_put_40 (by decide) ?_
    refine lv_iadd hx hb dX8_put_41 ?_
    refine lv_topi (fun f_3 ef_3 => ?_)
    obtain rfl : f_3 = nI (qz + 1) := ef_3.trans (nI_1 _)
    refine va_put (D := (dC, dI)) (ci := 8) (v := .int (nI (qz + 1))) (ty := .int) (C := RX8) (T := TX8) (N := 4) hx hb hts in_c_put_X8 tyX8 tyX8_ok nmX8 hown hK hP hD hS 0 rfl rfl 3 (by decide) (hts (.fieldLink RX8 17 "OwnedPlaces$Queue" "size" "I") (wm_c_put 1 rfl)) (fun _ h9 => h9) rfl (by decide +kernel) rfl rfl (Nat.le_of_ble_eq_true rfl) dX8_put_42 (fun H locs hP hD hS => ?_)
    have hP : va_P (dC, dI) vwCl [(q, .inr (8, [.ref qr, .ref qd, .int (nI fi), .int (nI (qz + 1))])), (qr, .inl (kL, N, .inr (.inl gr1)))] H := hP
    have hD : va_D A [(q, .inr (8, [.ref qr, .ref qd, .int (nI fi), .int (nI (qz + 1))])), (qr, .inl (kL, N, .inr (.inl gr1)))] := hD
    refine lv_iconst (v := 1) hx hb dX8_put_45 (by decide) ?_
    have hP9 := hP.sub (ws' := [(q, .inr (8, [.ref qr, .ref qd, .int (nI fi), .int (nI (qz + 1))])), (qr, .inl (kL, N, .inr (.inl gr1)))]) [0, 1] rfl
    have hD9 := hD.sub (ws' := [(q, .inr (8, [.ref qr, .ref qd, .int (nI fi), .int (nI (qz + 1))])), (qr, .inl (kL, N, .inr (.inl gr1)))]) [0, 1] (by decide) rfl
    have hK9 := hK.sub (tys' := [(kL, .long)]) [0] rfl
    exact W.zret (v := 1) hx hb hr (by decide) (fun tS ht hW => ⟨⟨1, (), rfl, (Or.inr rfl), qz + 1, gr1, hlt, by rw [ht]; exact hP9, va_K.moved hW.alike hK9, hD9⟩, hS.F ht⟩) hS.2.2 dX8_put_46
  · refine lv_iconst (v := 0) hx hb dX8_put_12 (by decide) ?_
    have hP9 := hP.sub (ws' := [(q, .inr (8, [.ref qr, .ref qd, .int (nI fi), .int (nI qz)])), (qr, .inl (kL, N, .inr (.inl fr)))]) [0, 1] rfl
    have hD9 := hD.sub (ws' := [(q, .inr (8, [.ref qr, .ref qd, .int (nI fi), .int (nI qz)])), (qr, .inl (kL, N, .inr (.inl fr)))]) [0, 1] (by decide) rfl
    have hK9 := hK.sub (tys' := [(kL, .long)]) [0] rfl
    exact W.zret (v := 0) hx hb hr (by decide) (fun tS ht hW => ⟨⟨0, (), rfl, (Or.inl rfl), qz, fr, hqz, by rw [ht]; exact hP9, va_K.moved hW.alike hK9, hD9⟩, hS.F ht⟩) hS.2.2 dX8_put_13
def wf_c_qtake : List Cond := [.code yX8_take cX8_take 3 (some .long), .fieldLink RX8 17 "OwnedPlaces$Queue" "size" "I", .fieldLink RX8 13 "OwnedPlaces$Queue" "row" "[J", .fieldLink RX8 21 "OwnedPlaces$Queue" "first" "I"]
def wp_c_qtake : List Cond := wf_c_qtake ++ (wsX80 ++ [])
theorem in_c_qtake_X8 : ∀ w ∈ wsX80, w ∈ wp_c_qtake := fun w h => List.mem_append_right _ (List.mem_append_left _ h)
theorem wg_c_qtake : wf_c_qtake.all goodWord = true := by decide +kernel
theorem wm_c_qtake (k : Nat) {w : Cond} (h : wp_c_qtake[k]? = some w) : w ∈ wp_c_qtake := List.mem_of_getElem? h
set_option maxHeartbeats 4000000 in
set_option maxRecDepth 100000 in
theorem c_qtake (l : Launch) (dC : Nat → ClassId) (dI : Nat → Nat → Nat) (q qr qd N fi qz : Nat) (kL : ClassId) (fr : Nat → Int64) (sz : Nat) (hN0 : 0 < N) (hN : N ≤ 4000) (hfi : fi < N) (hqz : qz ≤ N) : Met l yX8_take wp_c_qtake ({ frames := 0, cells := 0, slots := 0, locals := 0 }) (va_Pc [.ref q] (fun U => U.heap.size = sz ∧ va_P (dC, dI) vwCl [(q, .inr (8, [.ref qr, .ref qd, .int (nI fi), .int (nI qz)])), (qr, .inl (kL, N, .inr (.inl fr)))] U.heap ∧ va_K (dC, dI) vwCl [(kL, .long)] U ∧ va_D (fun _ => True) [(q, .inr (8, [.ref qr, .ref qd, .int (nI fi), .int (nI qz)])), (qr, .inl (kL, N, .inr (.inl fr)))])) (va_Ql (fun (_ : Int64) (_ : Unit) => True) (fun (_ : Unit) (tS : State) => ∃ (fi2 : Nat) (qz2 : Nat), (fi2 < N) ∧ (qz2 ≤ N) ∧ va_P (dC, dI) vwCl [(q, .inr (8, [.ref qr, .ref qd, .int (nI fi2), .int (nI qz2)])), (qr, .inl (kL, N, .inr (.inl fr)))] tS.heap ∧ va_K (dC, dI) vwCl [(kL, .long)] tS ∧ va_D (va_A [(q, .inr (8, [.ref qr, .ref qd, .int (nI fi), .int (nI qz)])), (qr, .inl (kL, N, .inr (.inl fr)))] sz) [(q, .inr (8, [.ref qr, .ref qd, .int (nI fi2), .int (nI qz2)])), (qr, .inl (kL, N, .inr (.inl fr)))]) (va_A [(q, .inr (8, [.ref qr, .ref qd, .int (nI fi), .int (nI qz)])), (qr, .inl (kL, N, .inr (.inl fr)))] sz)) 0 0 (va_A [(q, .inr (8, [.ref qr, .ref qd, .int (nI fi), .int (nI qz)])), (qr, .inl (kL, N, .inr (.inl fr)))] sz) := by
  refine Met.ofW (cc := cX8_take) (maxL := 3) (ret := (some .long)) (by decide) rfl ?_
  intro p e s m args below meth c s₁ B hml hv
  obtain ⟨rfl, hsz, hP, hK, hD0⟩ := hv
  have hx := B.exec
  have hb := B.bytes
  have hr := B.returns
  have hts := atoms_spec (ws := wp_c_qtake) B.pre
  have hown : s.vm.findClass RX8 = some m.cls := findClass_of_methodNamed B.named
  have hlocks := B.notSynchronized
  subst hsz
  have hD := hD0.self (sz := s.heap.size)
  generalize hAe : va_A [(q, .inr (8, [.ref qr, .ref qd, .int (nI fi), .int (nI qz)])), (qr, .inl (kL, N, .inr (.inl fr)))] s.heap.size = A at hD ⊢
  have hA : ∀ q : Nat, s.heap.size ≤ q → A q := fun q h => by rw [← hAe]; exact Or.inr h
  have hS : va_S A s.heap s.heap [] := va_S.rf
  have hP : va_P (dC, dI) vwCl [(q, .inr (8, [.ref qr, .ref qd, .int (nI fi), .int (nI qz)])), (qr, .inl (kL, N, .inr (.inl fr)))] s.heap := hP
  have hl := lv_entry ([.ref q]) (n := 3) (Nat.le_of_ble_eq_true rfl)
  rw [lg_entry_eq]
  generalize (lg_sl ([.ref q]) ++ List.replicate (3 - (lg_sl ([.ref q])).length) Slot.unset).toArray = ls at hl ⊢
  have hl : lv_has ls 3 [(0, .ref q)] := hl
  refine lv_aload_n hx hb dX8_take_0 rfl (lv_at hl 0 rfl) ?_
  refine va_get (D := (dC, dI)) (ci := 8) (v := .int (nI qz)) (C := RX8) (T := TX8) (N := 4) hx hb hts in_c_qtake_X8 hown hK hP 0 rfl rfl 3 (by decide) (hts (.fieldLink RX8 17 "OwnedPlaces$Queue" "size" "I") (wm_c_qtake 1 rfl)) (fun _ h9 => h9) rfl dX8_take_1 ?_
  refine lv_if_ne (tgt := 9) hx hb dX8_take_4 (by decide) (fun hc => ?_) (fun hc => ?_)
  · have h0 : 0 < qz := by rcases Nat.eq_zero_or_pos qz with z9 | z9; exact absurd (show nI qz = 0 by rw [z9]; rfl) hc; exact z9
    refine lv_aload_n hx hb dX8_take_9 rfl (lv_at hl 0 rfl) ?_
    refine va_get (D := (dC, dI)) (ci := 8) (v := .ref qr) (C := RX8) (T := TX8) (N := 4) hx hb hts in_c_qtake_X8 hown hK hP 0 rfl rfl 0 (by decide) (hts (.fieldLink RX8 13 "OwnedPlaces$Queue" "row" "[J") (wm_c_qtake 2 rfl)) (fun _ h9 => h9) rfl dX8_take_10 ?_
    refine lv_aload_n hx hb dX8_take_13 rfl (lv_at hl 0 rfl) ?_
    refine va_get (D := (dC, dI)) (ci := 8) (v := .int (nI fi)) (C := RX8) (T := TX8) (N := 4) hx hb hts in_c_qtake_X8 hown hK hP 0 rfl rfl 2 (by decide) (hts (.fieldLink RX8 21 "OwnedPlaces$Queue" "first" "I") (wm_c_qtake 3 rfl)) (fun _ h9 => h9) rfl dX8_take_14 ?_
    refine va_lald hx hb hK hP 1 0 rfl rfl (vp_in_nI hfi (by omega)) dX8_take_17 ?_
    refine lv_topl (fun v_1 ev_1 => ?_)
    refine lv_lstore_n (lv' := [(1, .long v_1), (0, .ref q)]) hx hb dX8_take_18 rfl hl (by decide) rfl (fun ls hl => ?_)
    refine lv_aload_n hx hb dX8_take_19 rfl (lv_at hl 1 rfl) ?_
    refine lv_aload_n hx hb dX8_take_20 rfl (lv_at hl 1 rfl) ?_
    refine va_get (D := (dC, dI)) (ci := 8) (v := .int (nI fi)) (C := RX8) (T := TX8) (N := 4) hx hb hts in_c_qtake_X8 hown hK hP 0 rfl rfl 2 (by decide) (hts (.fieldLink RX8 21 "OwnedPlaces$Queue" "first" "I") (wm_c_qtake 3 rfl)) (fun _ h9 => h9) rfl dX8_take_21 ?_
    refine lv_iconst (v := 1) hx hb dX8_take_24 (by decide) ?_
    refine lv_iadd hx hb dX8_take_25 ?_
    refine lv_topi (fun f_2 ef_2 => ?_)
    obtain rfl : f_2 = nI (fi + 1) := ef_2.trans (nI_1 _)
    refine lv_aload_n hx hb dX8_take_26 rfl (lv_at hl 1 rfl) ?_
    refine va_get (D := (dC, dI)) (ci := 8) (v := .ref qr) (C := RX8) (T := TX8) (N := 4) hx hb hts in_c_qtake_X8 hown hK hP 0 rfl rfl 0 (by decide) (hts (.fieldLink RX8 13 "OwnedPlaces$Queue" "row" "[J") (wm_c_qtake 2 rfl)) (fun _ h9 => h9) rfl dX8_take_27 ?_
    refine va_alen (v := nI N) hx hb hK hP 1 0 rfl rfl rfl dX8_take_30 ?_
    refine lv_irem hx hb dX8_take_31 (nI_ne0 hN0 (by omega)) ?_
    refine lv_topi (fun f_3 ef_3 => ?_)
    obtain rfl : f_3 = nI ((fi + 1) % N) := ef_3.trans (pk_rem (by omega) hN0 (by omega))
    refine va_put (D := (dC, dI)) (ci := 8) (v := .int (nI ((fi + 1) % N))) (ty := .int) (C := RX8) (T := TX8) (N := 4) hx hb hts in_c_qtake_X8 tyX8 tyX8_ok nmX8 hown hK hP hD hS 0 rfl rfl 2 (by decide) (hts (.fieldLink RX8 21 "OwnedPlaces$Queue" "first" "I") (wm_c_qtake 3 rfl)) (fun _ h9 => h9) rfl (by decide +kernel) rfl rfl (Nat.le_of_ble_eq_true rfl) dX8_take_32 (fun H locs hP hD hS => ?_)
    have hP : va_P (dC, dI) vwCl [(q, .inr (8, [.ref qr, .ref qd, .int (nI ((fi + 1) % N)), .int (nI qz)])), (qr, .inl (kL, N, .inr (.inl fr)))] H := hP
    have hD : va_D A [(q, .inr (8, [.ref qr, .ref qd, .int (nI ((fi + 1) % N)), .int (nI qz)])), (qr, .inl (kL, N, .inr (.inl fr)))] := hD
    refine lv_aload_n hx hb dX8_take_35 rfl (lv_at hl 1 rfl) ?_
    refine lv_dup hx hb dX8_take_36 rfl ?_
    refine va_get (D := (dC, dI)) (ci := 8) (v := .int (nI qz)) (C := RX8) (T := TX8) (N := 4) hx hb hts in_c_qtake_X8 hown hK hP 0 rfl rfl 3 (by decide) (hts (.fieldLink RX8 17 "OwnedPlaces$Queue" "size" "I") (wm_c_qtake 1 rfl)) (fun _ h9 => h9) rfl dX8_take_37 ?_
    refine lv_iconst (v := 1) hx hb dX8_take_40 (by decide) ?_
    refine lv_isub hx hb dX8_take_41 ?_
    refine lv_topi (fun f_4 ef_4 => ?_)
    obtain rfl : f_4 = nI (qz - 1) := ef_4.trans (pk_sub (a := qz) (b := 1) (by omega))
    refine va_put (D := (dC, dI)) (ci := 8) (v := .int (nI (qz - 1))) (ty := .int) (C := RX8) (T := TX8) (N := 4) hx hb hts in_c_qtake_X8 tyX8 tyX8_ok nmX8 hown hK hP hD hS 0 rfl rfl 3 (by decide) (hts (.fieldLink RX8 17 "OwnedPlaces$Queue" "size" "I") (wm_c_qtake 1 rfl)) (fun _ h9 => h9) rfl (by decide +kernel) rfl rfl (Nat.le_of_ble_eq_true rfl) dX8_take_42 (fun H locs hP hD hS => ?_)
    have hP : va_P (dC, dI) vwCl [(q, .inr (8, [.ref qr, .ref qd, .int (nI ((fi + 1) % N)), .int (nI (qz - 1))])), (qr, .inl (kL, N, .inr (.inl fr)))] H := hP
    have hD : va_D A [(q, .inr (8, [.ref qr, .ref qd, .int (nI ((fi + 1) % N)), .int (nI (qz - 1))])), (qr, .inl (kL, N, .inr (.inl fr)))] := hD
    refine lv_lload_n hx hb dX8_take_45 rfl (lv_at hl 0 rfl) ?_
    have hP9 := hP.sub (ws' := [(q, .inr (8, [.ref qr, .ref qd, .int (nI ((fi + 1) % N)), .int (nI (qz - 1))])), (qr, .inl (kL, N, .inr (.inl fr)))]) [0, 1] rfl
    have hD9 := hD.sub (ws' := [(q, .inr (8, [.ref qr, .ref qd, .int (nI ((fi + 1) % N)), .int (nI (qz - 1))])), (qr, .inl (kL, N, .inr (.inl fr)))]) [0, 1] (by decide) rfl
    have hK9 := hK.sub (tys' := [(kL, .long)]) [0] rfl
    exact W.lret (v := v_1) hx hb hr (fun tS ht hW => ⟨⟨v_1, (), rfl, trivial, (fi + 1) % N, qz - 1, Nat.mod_lt _ hN0, by omega, by rw [ht]; exact hP9, va_K.moved hW.alike hK9, hD9⟩, hS.F ht⟩) hS.2.2 dX8_take_46
  · refine lv_lconst (v := 0) hx hb dX8_take_7 (by decide) ?_
    have hP9 := hP.sub (ws' := [(q, .inr (8, [.ref qr, .ref qd, .int (nI fi), .int (nI qz)])), (qr, .inl (kL, N, .inr (.inl fr)))]) [0, 1] rfl
    have hD9 := hD.sub (ws' := [(q, .inr (8, [.ref qr, .ref qd, .int (nI fi), .int (nI qz)])), (qr, .inl (kL, N, .inr (.inl fr)))]) [0, 1] (by decide) rfl
    have hK9 := hK.sub (tys' := [(kL, .long)]) [0] rfl
    exact W.lret (v := 0) hx hb hr (fun tS ht hW => ⟨⟨0, (), rfl, trivial, fi, qz, hfi, hqz, by rw [ht]; exact hP9, va_K.moved hW.alike hK9, hD9⟩, hS.F ht⟩) hS.2.2 dX8_take_8
end
