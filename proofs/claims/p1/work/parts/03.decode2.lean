theorem dX9_nameOf_29 : decode cX9_nameOf 29 = .ok (.goto (-23), 3) := by decide +kernel
theorem dX9_nameOf_32 : decode cX9_nameOf 32 = .ok (.iload 4, 2) := by decide +kernel
theorem dX9_nameOf_34 : decode cX9_nameOf 34 = .ok (.sipush 255, 3) := by decide +kernel
theorem dX9_nameOf_37 : decode cX9_nameOf 37 = .ok (.iand, 1) := by decide +kernel
theorem dX9_nameOf_38 : decode cX9_nameOf 38 = .ok (.istore 5, 2) := by decide +kernel
theorem dX9_nameOf_40 : decode cX9_nameOf 40 = .ok (.aload_n 0, 1) := by decide +kernel
theorem dX9_nameOf_41 : decode cX9_nameOf 41 = .ok (.getfield 48, 3) := by decide +kernel
theorem dX9_nameOf_44 : decode cX9_nameOf 44 = .ok (.iload 5, 2) := by decide +kernel
theorem dX9_nameOf_46 : decode cX9_nameOf 46 = .ok (.iaload, 1) := by decide +kernel
theorem dX9_nameOf_47 : decode cX9_nameOf 47 = .ok (.istore 6, 2) := by decide +kernel
theorem dX9_nameOf_49 : decode cX9_nameOf 49 = .ok (.iconst 0, 1) := by decide +kernel
theorem dX9_nameOf_50 : decode cX9_nameOf 50 = .ok (.istore 7, 2) := by decide +kernel
theorem dX9_nameOf_52 : decode cX9_nameOf 52 = .ok (.iload 7, 2) := by decide +kernel
theorem dX9_nameOf_54 : decode cX9_nameOf 54 = .ok (.sipush 3020, 3) := by decide +kernel
theorem dX9_nameOf_57 : decode cX9_nameOf 57 = .ok (.if_icmp .ge 38, 3) := by decide +kernel
theorem dX9_nameOf_60 : decode cX9_nameOf 60 = .ok (.iload 6, 2) := by decide +kernel
theorem dX9_nameOf_62 : decode cX9_nameOf 62 = .ok (.ifCond .lt 33, 3) := by decide +kernel
theorem dX9_nameOf_65 : decode cX9_nameOf 65 = .ok (.aload_n 0, 1) := by decide +kernel
theorem dX9_nameOf_66 : decode cX9_nameOf 66 = .ok (.iload 6, 2) := by decide +kernel
theorem dX9_nameOf_68 : decode cX9_nameOf 68 = .ok (.aload_n 1, 1) := by decide +kernel
theorem dX9_nameOf_69 : decode cX9_nameOf 69 = .ok (.iload_n 2, 1) := by decide +kernel
theorem dX9_nameOf_70 : decode cX9_nameOf 70 = .ok (.iload_n 3, 1) := by decide +kernel
theorem dX9_nameOf_71 : decode cX9_nameOf 71 = .ok (.invokevirtual 154, 3) := by decide +kernel
theorem dX9_nameOf_74 : decode cX9_nameOf 74 = .ok (.ifCond .eq 6, 3) := by decide +kernel
theorem dX9_nameOf_77 : decode cX9_nameOf 77 = .ok (.iload 6, 2) := by decide +kernel
theorem dX9_nameOf_79 : decode cX9_nameOf 79 = .ok (.ireturn, 1) := by decide +kernel
theorem dX9_nameOf_80 : decode cX9_nameOf 80 = .ok (.aload_n 0, 1) := by decide +kernel
theorem dX9_nameOf_81 : decode cX9_nameOf 81 = .ok (.getfield 45, 3) := by decide +kernel
theorem dX9_nameOf_84 : decode cX9_nameOf 84 = .ok (.iload 6, 2) := by decide +kernel
theorem dX9_nameOf_86 : decode cX9_nameOf 86 = .ok (.iaload, 1) := by decide +kernel
theorem dX9_nameOf_87 : decode cX9_nameOf 87 = .ok (.istore 6, 2) := by decide +kernel
theorem dX9_nameOf_89 : decode cX9_nameOf 89 = .ok (.iinc 7 1, 3) := by decide +kernel
theorem dX9_nameOf_92 : decode cX9_nameOf 92 = .ok (.goto (-40), 3) := by decide +kernel
theorem dX9_nameOf_95 : decode cX9_nameOf 95 = .ok (.aload_n 0, 1) := by decide +kernel
theorem dX9_nameOf_96 : decode cX9_nameOf 96 = .ok (.iload 5, 2) := by decide +kernel
theorem dX9_nameOf_98 : decode cX9_nameOf 98 = .ok (.aload_n 1, 1) := by decide +kernel
theorem dX9_nameOf_99 : decode cX9_nameOf 99 = .ok (.iload_n 2, 1) := by decide +kernel
theorem dX9_nameOf_100 : decode cX9_nameOf 100 = .ok (.iload_n 3, 1) := by decide +kernel
theorem dX9_nameOf_101 : decode cX9_nameOf 101 = .ok (.invokevirtual 158, 3) := by decide +kernel
theorem dX9_nameOf_104 : decode cX9_nameOf 104 = .ok (.ireturn, 1) := by decide +kernel
theorem dX9_isSpelled_0 : decode cX9_isSpelled 0 = .ok (.aload_n 0, 1) := by decide +kernel
theorem dX9_isSpelled_1 : decode cX9_isSpelled 1 = .ok (.getfield 42, 3) := by decide +kernel
theorem dX9_isSpelled_4 : decode cX9_isSpelled 4 = .ok (.iload_n 1, 1) := by decide +kernel
theorem dX9_isSpelled_5 : decode cX9_isSpelled 5 = .ok (.iaload, 1) := by decide +kernel
theorem dX9_isSpelled_6 : decode cX9_isSpelled 6 = .ok (.iload 4, 2) := by decide +kernel
theorem dX9_isSpelled_8 : decode cX9_isSpelled 8 = .ok (.if_icmp .eq 5, 3) := by decide +kernel
theorem dX9_isSpelled_11 : decode cX9_isSpelled 11 = .ok (.iconst 0, 1) := by decide +kernel
theorem dX9_isSpelled_12 : decode cX9_isSpelled 12 = .ok (.ireturn, 1) := by decide +kernel
theorem dX9_isSpelled_13 : decode cX9_isSpelled 13 = .ok (.iconst 0, 1) := by decide +kernel
theorem dX9_isSpelled_14 : decode cX9_isSpelled 14 = .ok (.istore 5, 2) := by decide +kernel
theorem dX9_isSpelled_16 : decode cX9_isSpelled 16 = .ok (.iload 5, 2) := by decide +kernel
theorem dX9_isSpelled_18 : decode cX9_isSpelled 18 = .ok (.iload 4, 2) := by decide +kernel
theorem dX9_isSpelled_20 : decode cX9_isSpelled 20 = .ok (.if_icmp .ge 34, 3) := by decide +kernel
theorem dX9_isSpelled_23 : decode cX9_isSpelled 23 = .ok (.aload_n 0, 1) := by decide +kernel
theorem dX9_isSpelled_24 : decode cX9_isSpelled 24 = .ok (.getfield 36, 3) := by decide +kernel
theorem dX9_isSpelled_27 : decode cX9_isSpelled 27 = .ok (.aload_n 0, 1) := by decide +kernel
theorem dX9_isSpelled_28 : decode cX9_isSpelled 28 = .ok (.getfield 39, 3) := by decide +kernel
theorem dX9_isSpelled_31 : decode cX9_isSpelled 31 = .ok (.iload_n 1, 1) := by decide +kernel
theorem dX9_isSpelled_32 : decode cX9_isSpelled 32 = .ok (.iaload, 1) := by decide +kernel
theorem dX9_isSpelled_33 : decode cX9_isSpelled 33 = .ok (.iload 5, 2) := by decide +kernel
theorem dX9_isSpelled_35 : decode cX9_isSpelled 35 = .ok (.iadd, 1) := by decide +kernel
theorem dX9_isSpelled_36 : decode cX9_isSpelled 36 = .ok (.baload, 1) := by decide +kernel
theorem dX9_isSpelled_37 : decode cX9_isSpelled 37 = .ok (.aload_n 2, 1) := by decide +kernel
theorem dX9_isSpelled_38 : decode cX9_isSpelled 38 = .ok (.iload_n 3, 1) := by decide +kernel
theorem dX9_isSpelled_39 : decode cX9_isSpelled 39 = .ok (.iload 5, 2) := by decide +kernel
theorem dX9_isSpelled_41 : decode cX9_isSpelled 41 = .ok (.iadd, 1) := by decide +kernel
theorem dX9_isSpelled_42 : decode cX9_isSpelled 42 = .ok (.baload, 1) := by decide +kernel
theorem dX9_isSpelled_43 : decode cX9_isSpelled 43 = .ok (.if_icmp .eq 5, 3) := by decide +kernel
theorem dX9_isSpelled_46 : decode cX9_isSpelled 46 = .ok (.iconst 0, 1) := by decide +kernel
theorem dX9_isSpelled_47 : decode cX9_isSpelled 47 = .ok (.ireturn, 1) := by decide +kernel
theorem dX9_isSpelled_48 : decode cX9_isSpelled 48 = .ok (.iinc 5 1, 3) := by decide +kernel
theorem dX9_isSpelled_51 : decode cX9_isSpelled 51 = .ok (.goto (-35), 3) := by decide +kernel
theorem dX9_isSpelled_54 : decode cX9_isSpelled 54 = .ok (.iconst 1, 1) := by decide +kernel
theorem dX9_isSpelled_55 : decode cX9_isSpelled 55 = .ok (.ireturn, 1) := by decide +kernel
theorem dX9_addName_0 : decode cX9_addName 0 = .ok (.aload_n 0, 1) := by decide +kernel
theorem dX9_addName_1 : decode cX9_addName 1 = .ok (.getfield 89, 3) := by decide +kernel
theorem dX9_addName_4 : decode cX9_addName 4 = .ok (.istore 5, 2) := by decide +kernel
theorem dX9_addName_6 : decode cX9_addName 6 = .ok (.iload 5, 2) := by decide +kernel
theorem dX9_addName_8 : decode cX9_addName 8 = .ok (.ifCond .ne 7, 3) := by decide +kernel
theorem dX9_addName_11 : decode cX9_addName 11 = .ok (.iconst 0, 1) := by decide +kernel
theorem dX9_addName_12 : decode cX9_addName 12 = .ok (.goto 22, 3) := by decide +kernel
theorem dX9_addName_15 : decode cX9_addName 15 = .ok (.aload_n 0, 1) := by decide +kernel
theorem dX9_addName_16 : decode cX9_addName 16 = .ok (.getfield 39, 3) := by decide +kernel
theorem dX9_addName_19 : decode cX9_addName 19 = .ok (.iload 5, 2) := by decide +kernel
theorem dX9_addName_21 : decode cX9_addName 21 = .ok (.iconst 1, 1) := by decide +kernel
theorem dX9_addName_22 : decode cX9_addName 22 = .ok (.isub, 1) := by decide +kernel
theorem dX9_addName_23 : decode cX9_addName 23 = .ok (.iaload, 1) := by decide +kernel
theorem dX9_addName_24 : decode cX9_addName 24 = .ok (.aload_n 0, 1) := by decide +kernel
theorem dX9_addName_25 : decode cX9_addName 25 = .ok (.getfield 42, 3) := by decide +kernel
theorem dX9_addName_28 : decode cX9_addName 28 = .ok (.iload 5, 2) := by decide +kernel
theorem dX9_addName_30 : decode cX9_addName 30 = .ok (.iconst 1, 1) := by decide +kernel
theorem dX9_addName_31 : decode cX9_addName 31 = .ok (.isub, 1) := by decide +kernel
theorem dX9_addName_32 : decode cX9_addName 32 = .ok (.iaload, 1) := by decide +kernel
theorem dX9_addName_33 : decode cX9_addName 33 = .ok (.iadd, 1) := by decide +kernel
theorem dX9_addName_34 : decode cX9_addName 34 = .ok (.istore 6, 2) := by decide +kernel
theorem dX9_addName_36 : decode cX9_addName 36 = .ok (.aload_n 2, 1) := by decide +kernel
theorem dX9_addName_37 : decode cX9_addName 37 = .ok (.iload_n 3, 1) := by decide +kernel
theorem dX9_addName_38 : decode cX9_addName 38 = .ok (.aload_n 0, 1) := by decide +kernel
theorem dX9_addName_39 : decode cX9_addName 39 = .ok (.getfield 36, 3) := by decide +kernel
theorem dX9_addName_42 : decode cX9_addName 42 = .ok (.iload 6, 2) := by decide +kernel
theorem dX9_addName_44 : decode cX9_addName 44 = .ok (.iload 4, 2) := by decide +kernel
theorem dX9_addName_46 : decode cX9_addName 46 = .ok (.invokestatic 83, 3) := by decide +kernel
theorem dX9_addName_49 : decode cX9_addName 49 = .ok (.aload_n 0, 1) := by decide +kernel
theorem dX9_addName_50 : decode cX9_addName 50 = .ok (.getfield 39, 3) := by decide +kernel
theorem dX9_addName_53 : decode cX9_addName 53 = .ok (.iload 5, 2) := by decide +kernel
theorem dX9_addName_55 : decode cX9_addName 55 = .ok (.iload 6, 2) := by decide +kernel
theorem dX9_addName_57 : decode cX9_addName 57 = .ok (.iastore, 1) := by decide +kernel
theorem dX9_addName_58 : decode cX9_addName 58 = .ok (.aload_n 0, 1) := by decide +kernel
theorem dX9_addName_59 : decode cX9_addName 59 = .ok (.getfield 42, 3) := by decide +kernel
theorem dX9_addName_62 : decode cX9_addName 62 = .ok (.iload 5, 2) := by decide +kernel
theorem dX9_addName_64 : decode cX9_addName 64 = .ok (.iload 4, 2) := by decide +kernel
theorem dX9_addName_66 : decode cX9_addName 66 = .ok (.iastore, 1) := by decide +kernel
theorem dX9_addName_67 : decode cX9_addName 67 = .ok (.aload_n 0, 1) := by decide +kernel
theorem dX9_addName_68 : decode cX9_addName 68 = .ok (.getfield 45, 3) := by decide +kernel
theorem dX9_addName_71 : decode cX9_addName 71 = .ok (.iload 5, 2) := by decide +kernel
theorem dX9_addName_73 : decode cX9_addName 73 = .ok (.aload_n 0, 1) := by decide +kernel
theorem dX9_addName_74 : decode cX9_addName 74 = .ok (.getfield 48, 3) := by decide +kernel
theorem dX9_addName_77 : decode cX9_addName 77 = .ok (.iload_n 1, 1) := by decide +kernel
theorem dX9_addName_78 : decode cX9_addName 78 = .ok (.iaload, 1) := by decide +kernel
theorem dX9_addName_79 : decode cX9_addName 79 = .ok (.iastore, 1) := by decide +kernel
theorem dX9_addName_80 : decode cX9_addName 80 = .ok (.aload_n 0, 1) := by decide +kernel
theorem dX9_addName_81 : decode cX9_addName 81 = .ok (.getfield 48, 3) := by decide +kernel
theorem dX9_addName_84 : decode cX9_addName 84 = .ok (.iload_n 1, 1) := by decide +kernel
theorem dX9_addName_85 : decode cX9_addName 85 = .ok (.iload 5, 2) := by decide +kernel
theorem dX9_addName_87 : decode cX9_addName 87 = .ok (.iastore, 1) := by decide +kernel
theorem dX9_addName_88 : decode cX9_addName 88 = .ok (.aload_n 0, 1) := by decide +kernel
theorem dX9_addName_89 : decode cX9_addName 89 = .ok (.dup, 1) := by decide +kernel
theorem dX9_addName_90 : decode cX9_addName 90 = .ok (.getfield 89, 3) := by decide +kernel
theorem dX9_addName_93 : decode cX9_addName 93 = .ok (.iconst 1, 1) := by decide +kernel
theorem dX9_addName_94 : decode cX9_addName 94 = .ok (.iadd, 1) := by decide +kernel
theorem dX9_addName_95 : decode cX9_addName 95 = .ok (.putfield 89, 3) := by decide +kernel
theorem dX9_addName_98 : decode cX9_addName 98 = .ok (.iload 5, 2) := by decide +kernel
theorem dX9_addName_100 : decode cX9_addName 100 = .ok (.ireturn, 1) := by decide +kernel
theorem dX3_init_0 : decode cX3_init 0 = .ok (.aload_n 0, 1) := by decide +kernel
theorem dX3_init_1 : decode cX3_init 1 = .ok (.invokespecial 3, 3) := by decide +kernel
theorem dX3_init_4 : decode cX3_init 4 = .ok (.aload_n 0, 1) := by decide +kernel
theorem dX3_init_5 : decode cX3_init 5 = .ok (.bipush 70, 2) := by decide +kernel
theorem dX3_init_7 : decode cX3_init 7 = .ok (.newarray .int, 2) := by decide +kernel
theorem dX3_init_9 : decode cX3_init 9 = .ok (.putfield 9, 3) := by decide +kernel
theorem dX3_init_12 : decode cX3_init 12 = .ok (.aload_n 0, 1) := by decide +kernel
theorem dX3_init_13 : decode cX3_init 13 = .ok (.aload_n 1, 1) := by decide +kernel
theorem dX3_init_14 : decode cX3_init 14 = .ok (.putfield 15, 3) := by decide +kernel
theorem dX3_init_17 : decode cX3_init 17 = .ok (.return_, 1) := by decide +kernel
theorem dX3_program_0 : decode cX3_program 0 = .ok (.aload_n 0, 1) := by decide +kernel
theorem dX3_program_1 : decode cX3_program 1 = .ok (.iconst 0, 1) := by decide +kernel
theorem dX3_program_2 : decode cX3_program 2 = .ok (.putfield 19, 3) := by decide +kernel
theorem dX3_program_5 : decode cX3_program 5 = .ok (.aload_n 0, 1) := by decide +kernel
theorem dX3_program_6 : decode cX3_program 6 = .ok (.iconst 0, 1) := by decide +kernel
theorem dX3_program_7 : decode cX3_program 7 = .ok (.putfield 23, 3) := by decide +kernel
theorem dX3_program_10 : decode cX3_program 10 = .ok (.aload_n 0, 1) := by decide +kernel
theorem dX3_program_11 : decode cX3_program 11 = .ok (.iconst 0, 1) := by decide +kernel
theorem dX3_program_12 : decode cX3_program 12 = .ok (.putfield 26, 3) := by decide +kernel
theorem dX3_program_15 : decode cX3_program 15 = .ok (.iconst 0, 1) := by decide +kernel
theorem dX3_program_16 : decode cX3_program 16 = .ok (.istore_n 1, 1) := by decide +kernel
theorem dX3_program_17 : decode cX3_program 17 = .ok (.iload_n 1, 1) := by decide +kernel
theorem dX3_program_18 : decode cX3_program 18 = .ok (.sipush 3002, 3) := by decide +kernel
theorem dX3_program_21 : decode cX3_program 21 = .ok (.if_icmp .ge 63, 3) := by decide +kernel
theorem dX3_program_24 : decode cX3_program 24 = .ok (.aload_n 0, 1) := by decide +kernel
theorem dX3_program_25 : decode cX3_program 25 = .ok (.getfield 15, 3) := by decide +kernel
theorem dX3_program_28 : decode cX3_program 28 = .ok (.invokevirtual 29, 3) := by decide +kernel
theorem dX3_program_31 : decode cX3_program 31 = .ok (.ifCond .eq 53, 3) := by decide +kernel
theorem dX3_program_34 : decode cX3_program 34 = .ok (.aload_n 0, 1) := by decide +kernel
theorem dX3_program_35 : decode cX3_program 35 = .ok (.getfield 15, 3) := by decide +kernel
theorem dX3_program_38 : decode cX3_program 38 = .ok (.invokevirtual 29, 3) := by decide +kernel
theorem dX3_program_41 : decode cX3_program 41 = .ok (.istore_n 2, 1) := by decide +kernel
theorem dX3_program_42 : decode cX3_program 42 = .ok (.iload_n 2, 1) := by decide +kernel
theorem dX3_program_43 : decode cX3_program 43 = .ok (.bipush 7, 2) := by decide +kernel
theorem dX3_program_45 : decode cX3_program 45 = .ok (.if_icmp .ne 10, 3) := by decide +kernel
theorem dX3_program_48 : decode cX3_program 48 = .ok (.aload_n 0, 1) := by decide +kernel
theorem dX3_program_49 : decode cX3_program 49 = .ok (.invokevirtual 35, 3) := by decide +kernel
theorem dX3_program_52 : decode cX3_program 52 = .ok (.goto 26, 3) := by decide +kernel
theorem dX3_program_55 : decode cX3_program 55 = .ok (.iload_n 2, 1) := by decide +kernel
theorem dX3_program_56 : decode cX3_program 56 = .ok (.iconst 5, 1) := by decide +kernel
theorem dX3_program_57 : decode cX3_program 57 = .ok (.if_icmp .eq 9, 3) := by decide +kernel
theorem dX3_program_60 : decode cX3_program 60 = .ok (.iload_n 2, 1) := by decide +kernel
theorem dX3_program_61 : decode cX3_program 61 = .ok (.bipush 6, 2) := by decide +kernel
theorem dX3_program_63 : decode cX3_program 63 = .ok (.if_icmp .ne 11, 3) := by decide +kernel
theorem dX3_program_66 : decode cX3_program 66 = .ok (.aload_n 0, 1) := by decide +kernel
theorem dX3_program_67 : decode cX3_program 67 = .ok (.iload_n 2, 1) := by decide +kernel
theorem dX3_program_68 : decode cX3_program 68 = .ok (.invokevirtual 38, 3) := by decide +kernel
theorem dX3_program_71 : decode cX3_program 71 = .ok (.goto 7, 3) := by decide +kernel
theorem dX3_program_74 : decode cX3_program 74 = .ok (.aload_n 0, 1) := by decide +kernel
theorem dX3_program_75 : decode cX3_program 75 = .ok (.invokevirtual 42, 3) := by decide +kernel
theorem dX3_program_78 : decode cX3_program 78 = .ok (.iinc 1 1, 3) := by decide +kernel
theorem dX3_program_81 : decode cX3_program 81 = .ok (.goto (-64), 3) := by decide +kernel
theorem dX3_program_84 : decode cX3_program 84 = .ok (.return_, 1) := by decide +kernel
theorem dX10_init_0 : decode cX10_init 0 = .ok (.aload_n 0, 1) := by decide +kernel
theorem dX10_init_1 : decode cX10_init 1 = .ok (.invokespecial 3, 3) := by decide +kernel
theorem dX10_init_4 : decode cX10_init 4 = .ok (.aload_n 0, 1) := by decide +kernel
theorem dX10_init_5 : decode cX10_init 5 = .ok (.sipush 3040, 3) := by decide +kernel
theorem dX10_init_8 : decode cX10_init 8 = .ok (.newarray .int, 2) := by decide +kernel
theorem dX10_init_10 : decode cX10_init 10 = .ok (.putfield 9, 3) := by decide +kernel
theorem dX10_init_13 : decode cX10_init 13 = .ok (.aload_n 0, 1) := by decide +kernel
theorem dX10_init_14 : decode cX10_init 14 = .ok (.sipush 3040, 3) := by decide +kernel
theorem dX10_init_17 : decode cX10_init 17 = .ok (.newarray .int, 2) := by decide +kernel
theorem dX10_init_19 : decode cX10_init 19 = .ok (.putfield 15, 3) := by decide +kernel
theorem dX10_init_22 : decode cX10_init 22 = .ok (.aload_n 0, 1) := by decide +kernel
theorem dX10_init_23 : decode cX10_init 23 = .ok (.sipush 3040, 3) := by decide +kernel
theorem dX10_init_26 : decode cX10_init 26 = .ok (.newarray .int, 2) := by decide +kernel
theorem dX10_init_28 : decode cX10_init 28 = .ok (.putfield 18, 3) := by decide +kernel
theorem dX10_init_31 : decode cX10_init 31 = .ok (.aload_n 0, 1) := by decide +kernel
theorem dX10_init_32 : decode cX10_init 32 = .ok (.sipush 3040, 3) := by decide +kernel
theorem dX10_init_35 : decode cX10_init 35 = .ok (.newarray .boolean, 2) := by decide +kernel
theorem dX10_init_37 : decode cX10_init 37 = .ok (.putfield 21, 3) := by decide +kernel
theorem dX10_init_40 : decode cX10_init 40 = .ok (.aload_n 0, 1) := by decide +kernel
theorem dX10_init_41 : decode cX10_init 41 = .ok (.sipush 3040, 3) := by decide +kernel
theorem dX10_init_44 : decode cX10_init 44 = .ok (.newarray .int, 2) := by decide +kernel
theorem dX10_init_46 : decode cX10_init 46 = .ok (.putfield 25, 3) := by decide +kernel
theorem dX10_init_49 : decode cX10_init 49 = .ok (.aload_n 0, 1) := by decide +kernel
theorem dX10_init_50 : decode cX10_init 50 = .ok (.sipush 3040, 3) := by decide +kernel
theorem dX10_init_53 : decode cX10_init 53 = .ok (.newarray .int, 2) := by decide +kernel
theorem dX10_init_55 : decode cX10_init 55 = .ok (.putfield 28, 3) := by decide +kernel
theorem dX10_init_58 : decode cX10_init 58 = .ok (.aload_n 0, 1) := by decide +kernel
theorem dX10_init_59 : decode cX10_init 59 = .ok (.sipush 3040, 3) := by decide +kernel
theorem dX10_init_62 : decode cX10_init 62 = .ok (.newarray .int, 2) := by decide +kernel
theorem dX10_init_64 : decode cX10_init 64 = .ok (.putfield 31, 3) := by decide +kernel
theorem dX10_init_67 : decode cX10_init 67 = .ok (.aload_n 0, 1) := by decide +kernel
theorem dX10_init_68 : decode cX10_init 68 = .ok (.bipush 30, 2) := by decide +kernel
theorem dX10_init_70 : decode cX10_init 70 = .ok (.newarray .int, 2) := by decide +kernel
theorem dX10_init_72 : decode cX10_init 72 = .ok (.putfield 34, 3) := by decide +kernel
theorem dX10_init_75 : decode cX10_init 75 = .ok (.aload_n 0, 1) := by decide +kernel
theorem dX10_init_76 : decode cX10_init 76 = .ok (.bipush 30, 2) := by decide +kernel
theorem dX10_init_78 : decode cX10_init 78 = .ok (.newarray .int, 2) := by decide +kernel
theorem dX10_init_80 : decode cX10_init 80 = .ok (.putfield 37, 3) := by decide +kernel
theorem dX10_init_83 : decode cX10_init 83 = .ok (.aload_n 0, 1) := by decide +kernel
theorem dX10_init_84 : decode cX10_init 84 = .ok (.sipush 360, 3) := by decide +kernel
theorem dX10_init_87 : decode cX10_init 87 = .ok (.newarray .int, 2) := by decide +kernel
theorem dX10_init_89 : decode cX10_init 89 = .ok (.putfield 40, 3) := by decide +kernel
theorem dX10_init_92 : decode cX10_init 92 = .ok (.aload_n 0, 1) := by decide +kernel
theorem dX10_init_93 : decode cX10_init 93 = .ok (.sipush 360, 3) := by decide +kernel
theorem dX10_init_96 : decode cX10_init 96 = .ok (.newarray .int, 2) := by decide +kernel
theorem dX10_init_98 : decode cX10_init 98 = .ok (.putfield 43, 3) := by decide +kernel
theorem dX10_init_101 : decode cX10_init 101 = .ok (.aload_n 0, 1) := by decide +kernel
theorem dX10_init_102 : decode cX10_init 102 = .ok (.sipush 4320, 3) := by decide +kernel
theorem dX10_init_105 : decode cX10_init 105 = .ok (.newarray .int, 2) := by decide +kernel
theorem dX10_init_107 : decode cX10_init 107 = .ok (.putfield 46, 3) := by decide +kernel
theorem dX10_init_110 : decode cX10_init 110 = .ok (.aload_n 0, 1) := by decide +kernel
theorem dX10_init_111 : decode cX10_init 111 = .ok (.sipush 4320, 3) := by decide +kernel
theorem dX10_init_114 : decode cX10_init 114 = .ok (.newarray .int, 2) := by decide +kernel
theorem dX10_init_116 : decode cX10_init 116 = .ok (.putfield 49, 3) := by decide +kernel
theorem dX10_init_119 : decode cX10_init 119 = .ok (.aload_n 0, 1) := by decide +kernel
theorem dX10_init_120 : decode cX10_init 120 = .ok (.sipush 4320, 3) := by decide +kernel
theorem dX10_init_123 : decode cX10_init 123 = .ok (.newarray .int, 2) := by decide +kernel
theorem dX10_init_125 : decode cX10_init 125 = .ok (.putfield 52, 3) := by decide +kernel
theorem dX10_init_128 : decode cX10_init 128 = .ok (.return_, 1) := by decide +kernel
theorem dX10_clear_0 : decode cX10_clear 0 = .ok (.aload_n 0, 1) := by decide +kernel
theorem dX10_clear_1 : decode cX10_clear 1 = .ok (.iconst 0, 1) := by decide +kernel
theorem dX10_clear_2 : decode cX10_clear 2 = .ok (.putfield 55, 3) := by decide +kernel
theorem dX10_clear_5 : decode cX10_clear 5 = .ok (.aload_n 0, 1) := by decide +kernel
theorem dX10_clear_6 : decode cX10_clear 6 = .ok (.iconst 0, 1) := by decide +kernel
theorem dX10_clear_7 : decode cX10_clear 7 = .ok (.putfield 59, 3) := by decide +kernel
theorem dX10_clear_10 : decode cX10_clear 10 = .ok (.iconst 0, 1) := by decide +kernel
theorem dX10_clear_11 : decode cX10_clear 11 = .ok (.istore_n 1, 1) := by decide +kernel
theorem dX10_clear_12 : decode cX10_clear 12 = .ok (.iload_n 1, 1) := by decide +kernel
theorem dX10_clear_13 : decode cX10_clear 13 = .ok (.bipush 34, 2) := by decide +kernel
theorem dX10_clear_15 : decode cX10_clear 15 = .ok (.if_icmp .ge 42, 3) := by decide +kernel
theorem dX10_clear_18 : decode cX10_clear 18 = .ok (.aload_n 0, 1) := by decide +kernel
theorem dX10_clear_19 : decode cX10_clear 19 = .ok (.iconst 0, 1) := by decide +kernel
theorem dX10_clear_20 : decode cX10_clear 20 = .ok (.iconst 0, 1) := by decide +kernel
theorem dX10_clear_21 : decode cX10_clear 21 = .ok (.invokevirtual 62, 3) := by decide +kernel
theorem dX10_clear_24 : decode cX10_clear 24 = .ok (.pop, 1) := by decide +kernel
theorem dX10_clear_25 : decode cX10_clear 25 = .ok (.aload_n 0, 1) := by decide +kernel
theorem dX10_clear_26 : decode cX10_clear 26 = .ok (.getfield 18, 3) := by decide +kernel
theorem dX10_clear_29 : decode cX10_clear 29 = .ok (.iload_n 1, 1) := by decide +kernel
theorem dX10_clear_30 : decode cX10_clear 30 = .ok (.iload_n 1, 1) := by decide +kernel
theorem dX10_clear_31 : decode cX10_clear 31 = .ok (.iconst 1, 1) := by decide +kernel
theorem dX10_clear_32 : decode cX10_clear 32 = .ok (.if_icmp .eq 13, 3) := by decide +kernel
theorem dX10_clear_35 : decode cX10_clear 35 = .ok (.iload_n 1, 1) := by decide +kernel
theorem dX10_clear_36 : decode cX10_clear 36 = .ok (.iconst 2, 1) := by decide +kernel
theorem dX10_clear_37 : decode cX10_clear 37 = .ok (.if_icmp .eq 8, 3) := by decide +kernel
theorem dX10_clear_40 : decode cX10_clear 40 = .ok (.iload_n 1, 1) := by decide +kernel
theorem dX10_clear_41 : decode cX10_clear 41 = .ok (.iconst 3, 1) := by decide +kernel
theorem dX10_clear_42 : decode cX10_clear 42 = .ok (.if_icmp .ne 7, 3) := by decide +kernel
theorem dX10_clear_45 : decode cX10_clear 45 = .ok (.iconst 1, 1) := by decide +kernel
theorem dX10_clear_46 : decode cX10_clear 46 = .ok (.goto 4, 3) := by decide +kernel
theorem dX10_clear_49 : decode cX10_clear 49 = .ok (.iconst 0, 1) := by decide +kernel
theorem dX10_clear_50 : decode cX10_clear 50 = .ok (.iastore, 1) := by decide +kernel
theorem dX10_clear_51 : decode cX10_clear 51 = .ok (.iinc 1 1, 3) := by decide +kernel
theorem dX10_clear_54 : decode cX10_clear 54 = .ok (.goto (-42), 3) := by decide +kernel
theorem dX10_clear_57 : decode cX10_clear 57 = .ok (.aload_n 0, 1) := by decide +kernel
theorem dX10_clear_58 : decode cX10_clear 58 = .ok (.getfield 9, 3) := by decide +kernel
theorem dX10_clear_61 : decode cX10_clear 61 = .ok (.iconst 3, 1) := by decide +kernel
theorem dX10_clear_62 : decode cX10_clear 62 = .ok (.iconst 1, 1) := by decide +kernel
theorem dX10_clear_63 : decode cX10_clear 63 = .ok (.iastore, 1) := by decide +kernel
theorem dX10_clear_64 : decode cX10_clear 64 = .ok (.aload_n 0, 1) := by decide +kernel
theorem dX10_clear_65 : decode cX10_clear 65 = .ok (.getfield 21, 3) := by decide +kernel
theorem dX10_clear_68 : decode cX10_clear 68 = .ok (.iconst 3, 1) := by decide +kernel
theorem dX10_clear_69 : decode cX10_clear 69 = .ok (.iconst 1, 1) := by decide +kernel
theorem dX10_clear_70 : decode cX10_clear 70 = .ok (.bastore, 1) := by decide +kernel
theorem dX10_clear_71 : decode cX10_clear 71 = .ok (.return_, 1) := by decide +kernel
theorem dX10_make_0 : decode cX10_make 0 = .ok (.aload_n 0, 1) := by decide +kernel
theorem dX10_make_1 : decode cX10_make 1 = .ok (.getfield 59, 3) := by decide +kernel
theorem dX10_make_4 : decode cX10_make 4 = .ok (.sipush 3040, 3) := by decide +kernel
theorem dX10_make_7 : decode cX10_make 7 = .ok (.if_icmp .ne 5, 3) := by decide +kernel
theorem dX10_make_10 : decode cX10_make 10 = .ok (.iconst 0, 1) := by decide +kernel
theorem dX10_make_11 : decode cX10_make 11 = .ok (.ireturn, 1) := by decide +kernel
theorem dX10_make_12 : decode cX10_make 12 = .ok (.aload_n 0, 1) := by decide +kernel
theorem dX10_make_13 : decode cX10_make 13 = .ok (.getfield 59, 3) := by decide +kernel
theorem dX10_make_16 : decode cX10_make 16 = .ok (.istore_n 3, 1) := by decide +kernel
theorem dX10_make_17 : decode cX10_make 17 = .ok (.aload_n 0, 1) := by decide +kernel
theorem dX10_make_18 : decode cX10_make 18 = .ok (.getfield 9, 3) := by decide +kernel
theorem dX10_make_21 : decode cX10_make 21 = .ok (.iload_n 3, 1) := by decide +kernel
theorem dX10_make_22 : decode cX10_make 22 = .ok (.iload_n 1, 1) := by decide +kernel
theorem dX10_make_23 : decode cX10_make 23 = .ok (.iastore, 1) := by decide +kernel
theorem dX10_make_24 : decode cX10_make 24 = .ok (.aload_n 0, 1) := by decide +kernel
theorem dX10_make_25 : decode cX10_make 25 = .ok (.getfield 15, 3) := by decide +kernel
theorem dX10_make_28 : decode cX10_make 28 = .ok (.iload_n 3, 1) := by decide +kernel
theorem dX10_make_29 : decode cX10_make 29 = .ok (.iload_n 2, 1) := by decide +kernel
theorem dX10_make_30 : decode cX10_make 30 = .ok (.iastore, 1) := by decide +kernel
theorem dX10_make_31 : decode cX10_make 31 = .ok (.aload_n 0, 1) := by decide +kernel
theorem dX10_make_32 : decode cX10_make 32 = .ok (.getfield 18, 3) := by decide +kernel
theorem dX10_make_35 : decode cX10_make 35 = .ok (.iload_n 3, 1) := by decide +kernel
theorem dX10_make_36 : decode cX10_make 36 = .ok (.iconst 1, 1) := by decide +kernel
theorem dX10_make_37 : decode cX10_make 37 = .ok (.iastore, 1) := by decide +kernel
theorem dX10_make_38 : decode cX10_make 38 = .ok (.aload_n 0, 1) := by decide +kernel
theorem dX10_make_39 : decode cX10_make 39 = .ok (.getfield 21, 3) := by decide +kernel
theorem dX10_make_42 : decode cX10_make 42 = .ok (.iload_n 3, 1) := by decide +kernel
theorem dX10_make_43 : decode cX10_make 43 = .ok (.iload_n 1, 1) := by decide +kernel
theorem dX10_make_44 : decode cX10_make 44 = .ok (.iconst 4, 1) := by decide +kernel
theorem dX10_make_45 : decode cX10_make 45 = .ok (.if_icmp .ne 7, 3) := by decide +kernel
theorem dX10_make_48 : decode cX10_make 48 = .ok (.iconst 1, 1) := by decide +kernel
theorem dX10_make_49 : decode cX10_make 49 = .ok (.goto 4, 3) := by decide +kernel
theorem dX10_make_52 : decode cX10_make 52 = .ok (.iconst 0, 1) := by decide +kernel
theorem dX10_make_53 : decode cX10_make 53 = .ok (.bastore, 1) := by decide +kernel
theorem dX10_make_54 : decode cX10_make 54 = .ok (.aload_n 0, 1) := by decide +kernel
theorem dX10_make_55 : decode cX10_make 55 = .ok (.getfield 25, 3) := by decide +kernel
theorem dX10_make_58 : decode cX10_make 58 = .ok (.iload_n 3, 1) := by decide +kernel
theorem dX10_make_59 : decode cX10_make 59 = .ok (.iconst 0, 1) := by decide +kernel
theorem dX10_make_60 : decode cX10_make 60 = .ok (.iastore, 1) := by decide +kernel
theorem dX10_make_61 : decode cX10_make 61 = .ok (.aload_n 0, 1) := by decide +kernel
theorem dX10_make_62 : decode cX10_make 62 = .ok (.getfield 28, 3) := by decide +kernel
theorem dX10_make_65 : decode cX10_make 65 = .ok (.iload_n 3, 1) := by decide +kernel
theorem dX10_make_66 : decode cX10_make 66 = .ok (.iconst 0, 1) := by decide +kernel
theorem dX10_make_67 : decode cX10_make 67 = .ok (.iastore, 1) := by decide +kernel
theorem dX10_make_68 : decode cX10_make 68 = .ok (.aload_n 0, 1) := by decide +kernel
theorem dX10_make_69 : decode cX10_make 69 = .ok (.getfield 31, 3) := by decide +kernel
theorem dX10_make_72 : decode cX10_make 72 = .ok (.iload_n 3, 1) := by decide +kernel
theorem dX10_make_73 : decode cX10_make 73 = .ok (.iconst 0, 1) := by decide +kernel
theorem dX10_make_74 : decode cX10_make 74 = .ok (.iastore, 1) := by decide +kernel
theorem dX10_make_75 : decode cX10_make 75 = .ok (.aload_n 0, 1) := by decide +kernel
theorem dX10_make_76 : decode cX10_make 76 = .ok (.dup, 1) := by decide +kernel
theorem dX10_make_77 : decode cX10_make 77 = .ok (.getfield 59, 3) := by decide +kernel
theorem dX10_make_80 : decode cX10_make 80 = .ok (.iconst 1, 1) := by decide +kernel
theorem dX10_make_81 : decode cX10_make 81 = .ok (.iadd, 1) := by decide +kernel
theorem dX10_make_82 : decode cX10_make 82 = .ok (.putfield 59, 3) := by decide +kernel
theorem dX10_make_85 : decode cX10_make 85 = .ok (.iload_n 3, 1) := by decide +kernel
theorem dX10_make_86 : decode cX10_make 86 = .ok (.ireturn, 1) := by decide +kernel
theorem dX10_measure_0 : decode cX10_measure 0 = .ok (.iconst 0, 1) := by decide +kernel
theorem dX10_measure_1 : decode cX10_measure 1 = .ok (.istore_n 1, 1) := by decide +kernel
theorem dX10_measure_2 : decode cX10_measure 2 = .ok (.iload_n 1, 1) := by decide +kernel
theorem dX10_measure_3 : decode cX10_measure 3 = .ok (.aload_n 0, 1) := by decide +kernel
theorem dX10_measure_4 : decode cX10_measure 4 = .ok (.getfield 55, 3) := by decide +kernel
theorem dX10_measure_7 : decode cX10_measure 7 = .ok (.if_icmp .ge 41, 3) := by decide +kernel
theorem dX10_measure_10 : decode cX10_measure 10 = .ok (.iconst 0, 1) := by decide +kernel
theorem dX10_measure_11 : decode cX10_measure 11 = .ok (.istore_n 2, 1) := by decide +kernel
theorem dX10_measure_12 : decode cX10_measure 12 = .ok (.iload_n 2, 1) := by decide +kernel
theorem dX10_measure_13 : decode cX10_measure 13 = .ok (.aload_n 0, 1) := by decide +kernel
theorem dX10_measure_14 : decode cX10_measure 14 = .ok (.getfield 55, 3) := by decide +kernel
theorem dX10_measure_17 : decode cX10_measure 17 = .ok (.if_icmp .ge 25, 3) := by decide +kernel
theorem dX10_measure_20 : decode cX10_measure 20 = .ok (.aload_n 0, 1) := by decide +kernel
theorem dX10_measure_21 : decode cX10_measure 21 = .ok (.getfield 18, 3) := by decide +kernel
theorem dX10_measure_24 : decode cX10_measure 24 = .ok (.iconst 4, 1) := by decide +kernel
theorem dX10_measure_25 : decode cX10_measure 25 = .ok (.iload_n 2, 1) := by decide +kernel
theorem dX10_measure_26 : decode cX10_measure 26 = .ok (.iadd, 1) := by decide +kernel
theorem dX10_measure_27 : decode cX10_measure 27 = .ok (.iaload, 1) := by decide +kernel
theorem dX10_measure_28 : decode cX10_measure 28 = .ok (.ifCond .ne 8, 3) := by decide +kernel
theorem dX10_measure_31 : decode cX10_measure 31 = .ok (.aload_n 0, 1) := by decide +kernel
theorem dX10_measure_32 : decode cX10_measure 32 = .ok (.iload_n 2, 1) := by decide +kernel
theorem dX10_measure_33 : decode cX10_measure 33 = .ok (.invokevirtual 66, 3) := by decide +kernel
theorem dX10_measure_36 : decode cX10_measure 36 = .ok (.iinc 2 1, 3) := by decide +kernel
theorem dX10_measure_39 : decode cX10_measure 39 = .ok (.goto (-27), 3) := by decide +kernel
theorem dX10_measure_42 : decode cX10_measure 42 = .ok (.iinc 1 1, 3) := by decide +kernel
theorem dX10_measure_45 : decode cX10_measure 45 = .ok (.goto (-43), 3) := by decide +kernel
theorem dX10_measure_48 : decode cX10_measure 48 = .ok (.return_, 1) := by decide +kernel
theorem dX1_init_0 : decode cX1_init 0 = .ok (.aload_n 0, 1) := by decide +kernel
theorem dX1_init_1 : decode cX1_init 1 = .ok (.invokespecial 3, 3) := by decide +kernel
theorem dX1_init_4 : decode cX1_init 4 = .ok (.aload_n 0, 1) := by decide +kernel
theorem dX1_init_5 : decode cX1_init 5 = .ok (.bipush 40, 2) := by decide +kernel
theorem dX1_init_7 : decode cX1_init 7 = .ok (.anewarray 9, 3) := by decide +kernel
theorem dX1_init_10 : decode cX1_init 10 = .ok (.putfield 11, 3) := by decide +kernel
theorem dX1_init_13 : decode cX1_init 13 = .ok (.aload_n 0, 1) := by decide +kernel
theorem dX1_init_14 : decode cX1_init 14 = .ok (.sipush 3020, 3) := by decide +kernel
theorem dX1_init_17 : decode cX1_init 17 = .ok (.newarray .int, 2) := by decide +kernel
theorem dX1_init_19 : decode cX1_init 19 = .ok (.putfield 17, 3) := by decide +kernel
theorem dX1_init_22 : decode cX1_init 22 = .ok (.aload_n 0, 1) := by decide +kernel
theorem dX1_init_23 : decode cX1_init 23 = .ok (.aload_n 1, 1) := by decide +kernel
theorem dX1_init_24 : decode cX1_init 24 = .ok (.putfield 21, 3) := by decide +kernel
theorem dX1_init_27 : decode cX1_init 27 = .ok (.aload_n 0, 1) := by decide +kernel
theorem dX1_init_28 : decode cX1_init 28 = .ok (.aload_n 2, 1) := by decide +kernel
theorem dX1_init_29 : decode cX1_init 29 = .ok (.putfield 25, 3) := by decide +kernel
theorem dX1_init_32 : decode cX1_init 32 = .ok (.iconst 0, 1) := by decide +kernel
theorem dX1_init_33 : decode cX1_init 33 = .ok (.istore_n 3, 1) := by decide +kernel
theorem dX1_init_34 : decode cX1_init 34 = .ok (.iload_n 3, 1) := by decide +kernel
theorem dX1_init_35 : decode cX1_init 35 = .ok (.bipush 40, 2) := by decide +kernel
theorem dX1_init_37 : decode cX1_init 37 = .ok (.if_icmp .ge 22, 3) := by decide +kernel
theorem dX1_init_40 : decode cX1_init 40 = .ok (.aload_n 0, 1) := by decide +kernel
theorem dX1_init_41 : decode cX1_init 41 = .ok (.getfield 11, 3) := by decide +kernel
theorem dX1_init_44 : decode cX1_init 44 = .ok (.iload_n 3, 1) := by decide +kernel
theorem dX1_init_45 : decode cX1_init 45 = .ok (.new 9, 3) := by decide +kernel
theorem dX1_init_48 : decode cX1_init 48 = .ok (.dup, 1) := by decide +kernel
theorem dX1_init_49 : decode cX1_init 49 = .ok (.invokespecial 29, 3) := by decide +kernel
theorem dX1_init_52 : decode cX1_init 52 = .ok (.aastore, 1) := by decide +kernel
theorem dX1_init_53 : decode cX1_init 53 = .ok (.iinc 3 1, 3) := by decide +kernel
theorem dX1_init_56 : decode cX1_init 56 = .ok (.goto (-22), 3) := by decide +kernel
theorem dX1_init_59 : decode cX1_init 59 = .ok (.return_, 1) := by decide +kernel
theorem dX1_read_0 : decode cX1_read 0 = .ok (.aload_n 0, 1) := by decide +kernel
theorem dX1_read_1 : decode cX1_read 1 = .ok (.iconst 0, 1) := by decide +kernel
theorem dX1_read_2 : decode cX1_read 2 = .ok (.putfield 30, 3) := by decide +kernel
theorem dX1_read_5 : decode cX1_read 5 = .ok (.aload_n 0, 1) := by decide +kernel
theorem dX1_read_6 : decode cX1_read 6 = .ok (.getfield 25, 3) := by decide +kernel
theorem dX1_read_9 : decode cX1_read 9 = .ok (.invokevirtual 34, 3) := by decide +kernel
theorem dX1_read_12 : decode cX1_read 12 = .ok (.aload_n 0, 1) := by decide +kernel
theorem dX1_read_13 : decode cX1_read 13 = .ok (.getfield 17, 3) := by decide +kernel
theorem dX1_read_16 : decode cX1_read 16 = .ok (.iconst 0, 1) := by decide +kernel
theorem dX1_read_17 : decode cX1_read 17 = .ok (.aload_n 0, 1) := by decide +kernel
theorem dX1_read_18 : decode cX1_read 18 = .ok (.getfield 21, 3) := by decide +kernel
theorem dX1_read_21 : decode cX1_read 21 = .ok (.getfield 39, 3) := by decide +kernel
theorem dX1_read_24 : decode cX1_read 24 = .ok (.iconst 0, 1) := by decide +kernel
theorem dX1_read_25 : decode cX1_read 25 = .ok (.invokestatic 44, 3) := by decide +kernel
theorem dX1_read_28 : decode cX1_read 28 = .ok (.iconst 0, 1) := by decide +kernel
theorem dX1_read_29 : decode cX1_read 29 = .ok (.istore_n 2, 1) := by decide +kernel
theorem dX1_read_30 : decode cX1_read 30 = .ok (.iload_n 2, 1) := by decide +kernel
theorem dX1_read_31 : decode cX1_read 31 = .ok (.aload_n 1, 1) := by decide +kernel
theorem dX1_read_32 : decode cX1_read 32 = .ok (.getfield 50, 3) := by decide +kernel
theorem dX1_read_35 : decode cX1_read 35 = .ok (.if_icmp .ge 29, 3) := by decide +kernel
theorem dX1_read_38 : decode cX1_read 38 = .ok (.aload_n 0, 1) := by decide +kernel
theorem dX1_read_39 : decode cX1_read 39 = .ok (.getfield 21, 3) := by decide +kernel
theorem dX1_read_42 : decode cX1_read 42 = .ok (.getfield 53, 3) := by decide +kernel
theorem dX1_read_45 : decode cX1_read 45 = .ok (.ifCond .ne 19, 3) := by decide +kernel
theorem dX1_read_48 : decode cX1_read 48 = .ok (.aload_n 0, 1) := by decide +kernel
theorem dX1_read_49 : decode cX1_read 49 = .ok (.aload_n 1, 1) := by decide +kernel
theorem dX1_read_50 : decode cX1_read 50 = .ok (.getfield 56, 3) := by decide +kernel
theorem dX1_read_53 : decode cX1_read 53 = .ok (.iload_n 2, 1) := by decide +kernel
theorem dX1_read_54 : decode cX1_read 54 = .ok (.iaload, 1) := by decide +kernel
theorem dX1_read_55 : decode cX1_read 55 = .ok (.invokevirtual 59, 3) := by decide +kernel
theorem dX1_read_58 : decode cX1_read 58 = .ok (.iinc 2 1, 3) := by decide +kernel
theorem dX1_read_61 : decode cX1_read 61 = .ok (.goto (-31), 3) := by decide +kernel
theorem dX1_read_64 : decode cX1_read 64 = .ok (.iconst 0, 1) := by decide +kernel
theorem dX1_read_65 : decode cX1_read 65 = .ok (.istore_n 2, 1) := by decide +kernel
theorem dX1_read_66 : decode cX1_read 66 = .ok (.iload_n 2, 1) := by decide +kernel
theorem dX1_read_67 : decode cX1_read 67 = .ok (.aload_n 1, 1) := by decide +kernel
theorem dX1_read_68 : decode cX1_read 68 = .ok (.getfield 50, 3) := by decide +kernel
theorem dX1_read_71 : decode cX1_read 71 = .ok (.if_icmp .ge 29, 3) := by decide +kernel
theorem dX1_read_74 : decode cX1_read 74 = .ok (.aload_n 0, 1) := by decide +kernel
theorem dX1_read_75 : decode cX1_read 75 = .ok (.getfield 21, 3) := by decide +kernel
theorem dX1_read_78 : decode cX1_read 78 = .ok (.getfield 53, 3) := by decide +kernel
theorem dX1_read_81 : decode cX1_read 81 = .ok (.ifCond .ne 19, 3) := by decide +kernel
theorem dX1_read_84 : decode cX1_read 84 = .ok (.aload_n 0, 1) := by decide +kernel
theorem dX1_read_85 : decode cX1_read 85 = .ok (.aload_n 1, 1) := by decide +kernel
theorem dX1_read_86 : decode cX1_read 86 = .ok (.getfield 56, 3) := by decide +kernel
theorem dX1_read_89 : decode cX1_read 89 = .ok (.iload_n 2, 1) := by decide +kernel
theorem dX1_read_90 : decode cX1_read 90 = .ok (.iaload, 1) := by decide +kernel
theorem dX1_read_91 : decode cX1_read 91 = .ok (.invokevirtual 63, 3) := by decide +kernel
theorem dX1_read_94 : decode cX1_read 94 = .ok (.iinc 2 1, 3) := by decide +kernel
theorem dX1_read_97 : decode cX1_read 97 = .ok (.goto (-31), 3) := by decide +kernel
theorem dX1_read_100 : decode cX1_read 100 = .ok (.aload_n 0, 1) := by decide +kernel
theorem dX1_read_101 : decode cX1_read 101 = .ok (.getfield 21, 3) := by decide +kernel
theorem dX1_read_104 : decode cX1_read 104 = .ok (.getfield 53, 3) := by decide +kernel
theorem dX1_read_107 : decode cX1_read 107 = .ok (.ifCond .ne 14, 3) := by decide +kernel
theorem dX1_read_110 : decode cX1_read 110 = .ok (.aload_n 0, 1) := by decide +kernel
theorem dX1_read_111 : decode cX1_read 111 = .ok (.getfield 25, 3) := by decide +kernel
theorem dX1_read_114 : decode cX1_read 114 = .ok (.invokevirtual 66, 3) := by decide +kernel
theorem dX1_read_117 : decode cX1_read 117 = .ok (.aload_n 0, 1) := by decide +kernel
theorem dX1_read_118 : decode cX1_read 118 = .ok (.invokevirtual 69, 3) := by decide +kernel
theorem dX1_read_121 : decode cX1_read 121 = .ok (.aload_n 0, 1) := by decide +kernel
theorem dX1_read_122 : decode cX1_read 122 = .ok (.getfield 21, 3) := by decide +kernel
theorem dX1_read_125 : decode cX1_read 125 = .ok (.getfield 53, 3) := by decide +kernel
theorem dX1_read_128 : decode cX1_read 128 = .ok (.ifCond .ne 7, 3) := by decide +kernel
theorem dX1_read_131 : decode cX1_read 131 = .ok (.aload_n 0, 1) := by decide +kernel
theorem dX1_read_132 : decode cX1_read 132 = .ok (.invokevirtual 72, 3) := by decide +kernel
theorem dX1_read_135 : decode cX1_read 135 = .ok (.return_, 1) := by decide +kernel
theorem dX1_functionOf_0 : decode cX1_functionOf 0 = .ok (.aload_n 0, 1) := by decide +kernel
theorem dX1_functionOf_1 : decode cX1_functionOf 1 = .ok (.getfield 17, 3) := by decide +kernel
theorem dX1_functionOf_4 : decode cX1_functionOf 4 = .ok (.iload_n 1, 1) := by decide +kernel
theorem dX1_functionOf_5 : decode cX1_functionOf 5 = .ok (.iaload, 1) := by decide +kernel
theorem dX1_functionOf_6 : decode cX1_functionOf 6 = .ok (.ifCond .ge 15, 3) := by decide +kernel
theorem dX1_functionOf_9 : decode cX1_functionOf 9 = .ok (.aload_n 0, 1) := by decide +kernel
theorem dX1_functionOf_10 : decode cX1_functionOf 10 = .ok (.getfield 17, 3) := by decide +kernel
theorem dX1_functionOf_13 : decode cX1_functionOf 13 = .ok (.iload_n 1, 1) := by decide +kernel
theorem dX1_functionOf_14 : decode cX1_functionOf 14 = .ok (.iaload, 1) := by decide +kernel
theorem dX1_functionOf_15 : decode cX1_functionOf 15 = .ok (.ineg, 1) := by decide +kernel
theorem dX1_functionOf_16 : decode cX1_functionOf 16 = .ok (.iconst 1, 1) := by decide +kernel
theorem dX1_functionOf_17 : decode cX1_functionOf 17 = .ok (.isub, 1) := by decide +kernel
theorem dX1_functionOf_18 : decode cX1_functionOf 18 = .ok (.goto 4, 3) := by decide +kernel
theorem dX1_functionOf_21 : decode cX1_functionOf 21 = .ok (.iconst (-1), 1) := by decide +kernel
theorem dX1_functionOf_22 : decode cX1_functionOf 22 = .ok (.ireturn, 1) := by decide +kernel
theorem dX1_checkSizes_0 : decode cX1_checkSizes 0 = .ok (.iconst 0, 1) := by decide +kernel
theorem dX1_checkSizes_1 : decode cX1_checkSizes 1 = .ok (.istore_n 1, 1) := by decide +kernel
theorem dX1_checkSizes_2 : decode cX1_checkSizes 2 = .ok (.iload_n 1, 1) := by decide +kernel
theorem dX1_checkSizes_3 : decode cX1_checkSizes 3 = .ok (.aload_n 0, 1) := by decide +kernel
theorem dX1_checkSizes_4 : decode cX1_checkSizes 4 = .ok (.getfield 25, 3) := by decide +kernel
theorem dX1_checkSizes_7 : decode cX1_checkSizes 7 = .ok (.getfield 207, 3) := by decide +kernel
theorem dX1_checkSizes_10 : decode cX1_checkSizes 10 = .ok (.if_icmp .ge 56, 3) := by decide +kernel
theorem dX1_checkSizes_13 : decode cX1_checkSizes 13 = .ok (.aload_n 0, 1) := by decide +kernel
theorem dX1_checkSizes_14 : decode cX1_checkSizes 14 = .ok (.getfield 25, 3) := by decide +kernel
theorem dX1_checkSizes_17 : decode cX1_checkSizes 17 = .ok (.getfield 210, 3) := by decide +kernel
theorem dX1_checkSizes_20 : decode cX1_checkSizes 20 = .ok (.iconst 4, 1) := by decide +kernel
theorem dX1_checkSizes_21 : decode cX1_checkSizes 21 = .ok (.iload_n 1, 1) := by decide +kernel
theorem dX1_checkSizes_22 : decode cX1_checkSizes 22 = .ok (.iadd, 1) := by decide +kernel
theorem dX1_checkSizes_23 : decode cX1_checkSizes 23 = .ok (.iaload, 1) := by decide +kernel
theorem dX1_checkSizes_24 : decode cX1_checkSizes 24 = .ok (.istore_n 2, 1) := by decide +kernel
theorem dX1_checkSizes_25 : decode cX1_checkSizes 25 = .ok (.iload_n 2, 1) := by decide +kernel
theorem dX1_checkSizes_26 : decode cX1_checkSizes 26 = .ok (.ifCond .eq 9, 3) := by decide +kernel
theorem dX1_checkSizes_29 : decode cX1_checkSizes 29 = .ok (.iload_n 2, 1) := by decide +kernel
theorem dX1_checkSizes_30 : decode cX1_checkSizes 30 = .ok (.bipush 16, 2) := by decide +kernel
theorem dX1_checkSizes_32 : decode cX1_checkSizes 32 = .ok (.if_icmp .le 28, 3) := by decide +kernel
theorem dX1_checkSizes_35 : decode cX1_checkSizes 35 = .ok (.aload_n 0, 1) := by decide +kernel
theorem dX1_checkSizes_36 : decode cX1_checkSizes 36 = .ok (.getfield 21, 3) := by decide +kernel
theorem dX1_checkSizes_39 : decode cX1_checkSizes 39 = .ok (.iconst 4, 1) := by decide +kernel
theorem dX1_checkSizes_40 : decode cX1_checkSizes 40 = .ok (.aload_n 0, 1) := by decide +kernel
theorem dX1_checkSizes_41 : decode cX1_checkSizes 41 = .ok (.getfield 21, 3) := by decide +kernel
theorem dX1_checkSizes_44 : decode cX1_checkSizes 44 = .ok (.getfield 85, 3) := by decide +kernel
theorem dX1_checkSizes_47 : decode cX1_checkSizes 47 = .ok (.aload_n 0, 1) := by decide +kernel
theorem dX1_checkSizes_48 : decode cX1_checkSizes 48 = .ok (.getfield 25, 3) := by decide +kernel
theorem dX1_checkSizes_51 : decode cX1_checkSizes 51 = .ok (.getfield 213, 3) := by decide +kernel
theorem dX1_checkSizes_54 : decode cX1_checkSizes 54 = .ok (.iload_n 1, 1) := by decide +kernel
theorem dX1_checkSizes_55 : decode cX1_checkSizes 55 = .ok (.iaload, 1) := by decide +kernel
theorem dX1_checkSizes_56 : decode cX1_checkSizes 56 = .ok (.iaload, 1) := by decide +kernel
theorem dX1_checkSizes_57 : decode cX1_checkSizes 57 = .ok (.invokevirtual 88, 3) := by decide +kernel
theorem dX1_checkSizes_60 : decode cX1_checkSizes 60 = .ok (.iinc 1 1, 3) := by decide +kernel
theorem dX1_checkSizes_63 : decode cX1_checkSizes 63 = .ok (.goto (-61), 3) := by decide +kernel
theorem dX1_checkSizes_66 : decode cX1_checkSizes 66 = .ok (.return_, 1) := by decide +kernel
theorem dX1_checkMain_0 : decode cX1_checkMain 0 = .ok (.aload_n 0, 1) := by decide +kernel
theorem dX1_checkMain_1 : decode cX1_checkMain 1 = .ok (.aload_n 0, 1) := by decide +kernel
theorem dX1_checkMain_2 : decode cX1_checkMain 2 = .ok (.bipush 19, 2) := by decide +kernel
theorem dX1_checkMain_4 : decode cX1_checkMain 4 = .ok (.invokevirtual 216, 3) := by decide +kernel
theorem dX1_checkMain_7 : decode cX1_checkMain 7 = .ok (.putfield 219, 3) := by decide +kernel
theorem dX1_checkMain_10 : decode cX1_checkMain 10 = .ok (.aload_n 0, 1) := by decide +kernel
theorem dX1_checkMain_11 : decode cX1_checkMain 11 = .ok (.getfield 219, 3) := by decide +kernel
theorem dX1_checkMain_14 : decode cX1_checkMain 14 = .ok (.ifCond .ge 29, 3) := by decide +kernel
theorem dX1_checkMain_17 : decode cX1_checkMain 17 = .ok (.aload_n 0, 1) := by decide +kernel
theorem dX1_checkMain_18 : decode cX1_checkMain 18 = .ok (.getfield 21, 3) := by decide +kernel
theorem dX1_checkMain_21 : decode cX1_checkMain 21 = .ok (.sipush 3002, 3) := by decide +kernel
theorem dX1_checkMain_24 : decode cX1_checkMain 24 = .ok (.invokevirtual 105, 3) := by decide +kernel
theorem dX1_checkMain_27 : decode cX1_checkMain 27 = .ok (.aload_n 0, 1) := by decide +kernel
theorem dX1_checkMain_28 : decode cX1_checkMain 28 = .ok (.getfield 21, 3) := by decide +kernel
theorem dX1_checkMain_31 : decode cX1_checkMain 31 = .ok (.iconst 3, 1) := by decide +kernel
theorem dX1_checkMain_32 : decode cX1_checkMain 32 = .ok (.aload_n 0, 1) := by decide +kernel
theorem dX1_checkMain_33 : decode cX1_checkMain 33 = .ok (.getfield 21, 3) := by decide +kernel
theorem dX1_checkMain_36 : decode cX1_checkMain 36 = .ok (.invokevirtual 130, 3) := by decide +kernel
theorem dX1_checkMain_39 : decode cX1_checkMain 39 = .ok (.invokevirtual 88, 3) := by decide +kernel
theorem dX1_checkMain_42 : decode cX1_checkMain 42 = .ok (.return_, 1) := by decide +kernel
theorem dX1_checkMain_43 : decode cX1_checkMain 43 = .ok (.aload_n 0, 1) := by decide +kernel
theorem dX1_checkMain_44 : decode cX1_checkMain 44 = .ok (.getfield 11, 3) := by decide +kernel
theorem dX1_checkMain_47 : decode cX1_checkMain 47 = .ok (.aload_n 0, 1) := by decide +kernel
theorem dX1_checkMain_48 : decode cX1_checkMain 48 = .ok (.getfield 219, 3) := by decide +kernel
theorem dX1_checkMain_51 : decode cX1_checkMain 51 = .ok (.aaload, 1) := by decide +kernel
theorem dX1_checkMain_52 : decode cX1_checkMain 52 = .ok (.astore_n 1, 1) := by decide +kernel
theorem dX1_checkMain_53 : decode cX1_checkMain 53 = .ok (.aload_n 1, 1) := by decide +kernel
theorem dX1_checkMain_54 : decode cX1_checkMain 54 = .ok (.getfield 172, 3) := by decide +kernel
theorem dX1_checkMain_57 : decode cX1_checkMain 57 = .ok (.ifCond .gt 17, 3) := by decide +kernel
theorem dX1_checkMain_60 : decode cX1_checkMain 60 = .ok (.aload_n 1, 1) := by decide +kernel
theorem dX1_checkMain_61 : decode cX1_checkMain 61 = .ok (.getfield 188, 3) := by decide +kernel
theorem dX1_checkMain_64 : decode cX1_checkMain 64 = .ok (.ifCond .gt 10, 3) := by decide +kernel
theorem dX1_checkMain_67 : decode cX1_checkMain 67 = .ok (.aload_n 1, 1) := by decide +kernel
theorem dX1_checkMain_68 : decode cX1_checkMain 68 = .ok (.getfield 153, 3) := by decide +kernel
theorem dX1_checkMain_71 : decode cX1_checkMain 71 = .ok (.ifCond .eq 23, 3) := by decide +kernel
theorem dX1_checkMain_74 : decode cX1_checkMain 74 = .ok (.aload_n 0, 1) := by decide +kernel
theorem dX1_checkMain_75 : decode cX1_checkMain 75 = .ok (.getfield 21, 3) := by decide +kernel
theorem dX1_checkMain_78 : decode cX1_checkMain 78 = .ok (.iconst 4, 1) := by decide +kernel
theorem dX1_checkMain_79 : decode cX1_checkMain 79 = .ok (.aload_n 0, 1) := by decide +kernel
theorem dX1_checkMain_80 : decode cX1_checkMain 80 = .ok (.getfield 21, 3) := by decide +kernel
theorem dX1_checkMain_83 : decode cX1_checkMain 83 = .ok (.getfield 85, 3) := by decide +kernel
theorem dX1_checkMain_86 : decode cX1_checkMain 86 = .ok (.aload_n 1, 1) := by decide +kernel
theorem dX1_checkMain_87 : decode cX1_checkMain 87 = .ok (.getfield 222, 3) := by decide +kernel
theorem dX1_checkMain_90 : decode cX1_checkMain 90 = .ok (.iaload, 1) := by decide +kernel
theorem dX1_checkMain_91 : decode cX1_checkMain 91 = .ok (.invokevirtual 88, 3) := by decide +kernel
theorem dX1_checkMain_94 : decode cX1_checkMain 94 = .ok (.return_, 1) := by decide +kernel
theorem dX2_init_0 : decode cX2_init 0 = .ok (.aload_n 0, 1) := by decide +kernel
theorem dX2_init_1 : decode cX2_init 1 = .ok (.invokespecial 3, 3) := by decide +kernel
theorem dX2_init_4 : decode cX2_init 4 = .ok (.aload_n 0, 1) := by decide +kernel
theorem dX2_init_5 : decode cX2_init 5 = .ok (.bipush 8, 2) := by decide +kernel
theorem dX2_init_7 : decode cX2_init 7 = .ok (.newarray .int, 2) := by decide +kernel
theorem dX2_init_9 : decode cX2_init 9 = .ok (.putfield 9, 3) := by decide +kernel
theorem dX2_init_12 : decode cX2_init 12 = .ok (.aload_n 0, 1) := by decide +kernel
theorem dX2_init_13 : decode cX2_init 13 = .ok (.bipush 12, 2) := by decide +kernel
theorem dX2_init_15 : decode cX2_init 15 = .ok (.newarray .int, 2) := by decide +kernel
theorem dX2_init_17 : decode cX2_init 17 = .ok (.putfield 15, 3) := by decide +kernel
theorem dX2_init_20 : decode cX2_init 20 = .ok (.aload_n 0, 1) := by decide +kernel
theorem dX2_init_21 : decode cX2_init 21 = .ok (.bipush 40, 2) := by decide +kernel
theorem dX2_init_23 : decode cX2_init 23 = .ok (.newarray .int, 2) := by decide +kernel
theorem dX2_init_25 : decode cX2_init 25 = .ok (.putfield 18, 3) := by decide +kernel
theorem dX2_init_28 : decode cX2_init 28 = .ok (.aload_n 0, 1) := by decide +kernel
theorem dX2_init_29 : decode cX2_init 29 = .ok (.bipush 40, 2) := by decide +kernel
theorem dX2_init_31 : decode cX2_init 31 = .ok (.newarray .int, 2) := by decide +kernel
theorem dX2_init_33 : decode cX2_init 33 = .ok (.putfield 21, 3) := by decide +kernel
theorem dX2_init_36 : decode cX2_init 36 = .ok (.aload_n 0, 1) := by decide +kernel
theorem dX2_init_37 : decode cX2_init 37 = .ok (.bipush 40, 2) := by decide +kernel
theorem dX2_init_39 : decode cX2_init 39 = .ok (.newarray .boolean, 2) := by decide +kernel
theorem dX2_init_41 : decode cX2_init 41 = .ok (.putfield 24, 3) := by decide +kernel
theorem dX2_init_44 : decode cX2_init 44 = .ok (.aload_n 0, 1) := by decide +kernel
theorem dX2_init_45 : decode cX2_init 45 = .ok (.bipush 40, 2) := by decide +kernel
theorem dX2_init_47 : decode cX2_init 47 = .ok (.newarray .int, 2) := by decide +kernel
theorem dX2_init_49 : decode cX2_init 49 = .ok (.putfield 28, 3) := by decide +kernel
theorem dX2_init_52 : decode cX2_init 52 = .ok (.aload_n 0, 1) := by decide +kernel
theorem dX2_init_53 : decode cX2_init 53 = .ok (.bipush 40, 2) := by decide +kernel
theorem dX2_init_55 : decode cX2_init 55 = .ok (.newarray .int, 2) := by decide +kernel
theorem dX2_init_57 : decode cX2_init 57 = .ok (.putfield 31, 3) := by decide +kernel
theorem dX2_init_60 : decode cX2_init 60 = .ok (.aload_n 0, 1) := by decide +kernel
theorem dX2_init_61 : decode cX2_init 61 = .ok (.bipush 40, 2) := by decide +kernel
