theorem dX1_checkMain_0 : decode cX1_checkMain 0 = .ok (.aload_n 0, 1) := by decide +kernel
theorem dX1_checkMain_1 : decode cX1_checkMain 1 = .ok (.aload_n 0, 1) := by decide +kernel
theorem dX1_checkMain_2 : decode cX1_checkMain 2 = .ok (.bipush 19, 2) := by decide +kernel
theorem dX1_checkMain_4 : decode cX1_checkMain 4 = .ok (.invokevirtual 216, 3) := by decide +kernel
theorem dX1_checkMain_7 : decode cX1_checkMain 7 = .ok (.putfield 219, 3) := by decide +kernel
theorem dX1_checkMain_10 : decode cX1_checkMain 10 = .ok (.aload_n 0, 1) := by decide +kernel
theorem dX1_checkMain_11 : decode cX1_checkMain 11 = .ok (.getfield 219, 3) := by decide +kernel
theorem dX1_checkMain_14 : decode cX1_checkMain 14 = .ok (.ifCond .ge 29, 3) := by decide +kernel
theorem dX1_checkMain_17 : decode cX1_checkMain 17 = .ok (.aload_n 0, 1) := by decide +kernel
theorem dX1_checkMain_18 : decode cX1_checkMain 18 = .ok (.getfield 21, 3) := by decide +kernel
theorem dX1_checkMain_21 : decode cX1_checkMain 21 = .ok (.sipush 3002, 3) := by decide +kernel
theorem dX1_checkMain_24 : decode cX1_checkMain 24 = .ok (.invokevirtual 105, 3) := by decide +kernel
theorem dX1_checkMain_27 : decode cX1_checkMain 27 = .ok (.aload_n 0, 1) := by decide +kernel
theorem dX1_checkMain_28 : decode cX1_checkMain 28 = .ok (.getfield 21, 3) := by decide +kernel
theorem dX1_checkMain_31 : decode cX1_checkMain 31 = .ok (.iconst 3, 1) := by decide +kernel
theorem dX1_checkMain_32 : decode cX1_checkMain 32 = .ok (.aload_n 0, 1) := by decide +kernel
theorem dX1_checkMain_33 : decode cX1_checkMain 33 = .ok (.getfield 21, 3) := by decide +kernel
theorem dX1_checkMain_36 : decode cX1_checkMain 36 = .ok (.invokevirtual 130, 3) := by decide +kernel
theorem dX1_checkMain_39 : decode cX1_checkMain 39 = .ok (.invokevirtual 88, 3) := by decide +kernel
theorem dX1_checkMain_42 : decode cX1_checkMain 42 = .ok (.return_, 1) := by decide +kernel
theorem dX1_checkMain_43 : decode cX1_checkMain 43 = .ok (.aload_n 0, 1) := by decide +kernel
theorem dX1_checkMain_44 : decode cX1_checkMain 44 = .ok (.getfield 11, 3) := by decide +kernel
theorem dX1_checkMain_47 : decode cX1_checkMain 47 = .ok (.aload_n 0, 1) := by decide +kernel
theorem dX1_checkMain_48 : decode cX1_checkMain 48 = .ok (.getfield 219, 3) := by decide +kernel
theorem dX1_checkMain_51 : decode cX1_checkMain 51 = .ok (.aaload, 1) := by decide +kernel
theorem dX1_checkMain_52 : decode cX1_checkMain 52 = .ok (.astore_n 1, 1) := by decide +kernel
theorem dX1_checkMain_53 : decode cX1_checkMain 53 = .ok (.aload_n 1, 1) := by decide +kernel
theorem dX1_checkMain_54 : decode cX1_checkMain 54 = .ok (.getfield 172, 3) := by decide +kernel
theorem dX1_checkMain_57 : decode cX1_checkMain 57 = .ok (.ifCond .gt 17, 3) := by decide +kernel
theorem dX1_checkMain_60 : decode cX1_checkMain 60 = .ok (.aload_n 1, 1) := by decide +kernel
theorem dX1_checkMain_61 : decode cX1_checkMain 61 = .ok (.getfield 188, 3) := by decide +kernel
theorem dX1_checkMain_64 : decode cX1_checkMain 64 = .ok (.ifCond .gt 10, 3) := by decide +kernel
theorem dX1_checkMain_67 : decode cX1_checkMain 67 = .ok (.aload_n 1, 1) := by decide +kernel
theorem dX1_checkMain_68 : decode cX1_checkMain 68 = .ok (.getfield 153, 3) := by decide +kernel
theorem dX1_checkMain_71 : decode cX1_checkMain 71 = .ok (.ifCond .eq 23, 3) := by decide +kernel
theorem dX1_checkMain_74 : decode cX1_checkMain 74 = .ok (.aload_n 0, 1) := by decide +kernel
theorem dX1_checkMain_75 : decode cX1_checkMain 75 = .ok (.getfield 21, 3) := by decide +kernel
theorem dX1_checkMain_78 : decode cX1_checkMain 78 = .ok (.iconst 4, 1) := by decide +kernel
theorem dX1_checkMain_79 : decode cX1_checkMain 79 = .ok (.aload_n 0, 1) := by decide +kernel
theorem dX1_checkMain_80 : decode cX1_checkMain 80 = .ok (.getfield 21, 3) := by decide +kernel
theorem dX1_checkMain_83 : decode cX1_checkMain 83 = .ok (.getfield 85, 3) := by decide +kernel
theorem dX1_checkMain_86 : decode cX1_checkMain 86 = .ok (.aload_n 1, 1) := by decide +kernel
theorem dX1_checkMain_87 : decode cX1_checkMain 87 = .ok (.getfield 222, 3) := by decide +kernel
theorem dX1_checkMain_90 : decode cX1_checkMain 90 = .ok (.iaload, 1) := by decide +kernel
theorem dX1_checkMain_91 : decode cX1_checkMain 91 = .ok (.invokevirtual 88, 3) := by decide +kernel
theorem dX1_checkMain_94 : decode cX1_checkMain 94 = .ok (.return_, 1) := by decide +kernel
theorem dX1_checkSizes_0 : decode cX1_checkSizes 0 = .ok (.iconst 0, 1) := by decide +kernel
theorem dX1_checkSizes_1 : decode cX1_checkSizes 1 = .ok (.istore_n 1, 1) := by decide +kernel
theorem dX1_checkSizes_2 : decode cX1_checkSizes 2 = .ok (.iload_n 1, 1) := by decide +kernel
theorem dX1_checkSizes_3 : decode cX1_checkSizes 3 = .ok (.aload_n 0, 1) := by decide +kernel
theorem dX1_checkSizes_4 : decode cX1_checkSizes 4 = .ok (.getfield 25, 3) := by decide +kernel
theorem dX1_checkSizes_7 : decode cX1_checkSizes 7 = .ok (.getfield 207, 3) := by decide +kernel
theorem dX1_checkSizes_10 : decode cX1_checkSizes 10 = .ok (.if_icmp .ge 56, 3) := by decide +kernel
theorem dX1_checkSizes_13 : decode cX1_checkSizes 13 = .ok (.aload_n 0, 1) := by decide +kernel
theorem dX1_checkSizes_14 : decode cX1_checkSizes 14 = .ok (.getfield 25, 3) := by decide +kernel
theorem dX1_checkSizes_17 : decode cX1_checkSizes 17 = .ok (.getfield 210, 3) := by decide +kernel
theorem dX1_checkSizes_20 : decode cX1_checkSizes 20 = .ok (.iconst 4, 1) := by decide +kernel
theorem dX1_checkSizes_21 : decode cX1_checkSizes 21 = .ok (.iload_n 1, 1) := by decide +kernel
theorem dX1_checkSizes_22 : decode cX1_checkSizes 22 = .ok (.iadd, 1) := by decide +kernel
theorem dX1_checkSizes_23 : decode cX1_checkSizes 23 = .ok (.iaload, 1) := by decide +kernel
theorem dX1_checkSizes_24 : decode cX1_checkSizes 24 = .ok (.istore_n 2, 1) := by decide +kernel
theorem dX1_checkSizes_25 : decode cX1_checkSizes 25 = .ok (.iload_n 2, 1) := by decide +kernel
theorem dX1_checkSizes_26 : decode cX1_checkSizes 26 = .ok (.ifCond .eq 9, 3) := by decide +kernel
theorem dX1_checkSizes_29 : decode cX1_checkSizes 29 = .ok (.iload_n 2, 1) := by decide +kernel
theorem dX1_checkSizes_30 : decode cX1_checkSizes 30 = .ok (.bipush 16, 2) := by decide +kernel
theorem dX1_checkSizes_32 : decode cX1_checkSizes 32 = .ok (.if_icmp .le 28, 3) := by decide +kernel
theorem dX1_checkSizes_35 : decode cX1_checkSizes 35 = .ok (.aload_n 0, 1) := by decide +kernel
theorem dX1_checkSizes_36 : decode cX1_checkSizes 36 = .ok (.getfield 21, 3) := by decide +kernel
theorem dX1_checkSizes_39 : decode cX1_checkSizes 39 = .ok (.iconst 4, 1) := by decide +kernel
theorem dX1_checkSizes_40 : decode cX1_checkSizes 40 = .ok (.aload_n 0, 1) := by decide +kernel
theorem dX1_checkSizes_41 : decode cX1_checkSizes 41 = .ok (.getfield 21, 3) := by decide +kernel
theorem dX1_checkSizes_44 : decode cX1_checkSizes 44 = .ok (.getfield 85, 3) := by decide +kernel
theorem dX1_checkSizes_47 : decode cX1_checkSizes 47 = .ok (.aload_n 0, 1) := by decide +kernel
theorem dX1_checkSizes_48 : decode cX1_checkSizes 48 = .ok (.getfield 25, 3) := by decide +kernel
theorem dX1_checkSizes_51 : decode cX1_checkSizes 51 = .ok (.getfield 213, 3) := by decide +kernel
theorem dX1_checkSizes_54 : decode cX1_checkSizes 54 = .ok (.iload_n 1, 1) := by decide +kernel
theorem dX1_checkSizes_55 : decode cX1_checkSizes 55 = .ok (.iaload, 1) := by decide +kernel
theorem dX1_checkSizes_56 : decode cX1_checkSizes 56 = .ok (.iaload, 1) := by decide +kernel
theorem dX1_checkSizes_57 : decode cX1_checkSizes 57 = .ok (.invokevirtual 88, 3) := by decide +kernel
theorem dX1_checkSizes_60 : decode cX1_checkSizes 60 = .ok (.iinc 1 1, 3) := by decide +kernel
theorem dX1_checkSizes_63 : decode cX1_checkSizes 63 = .ok (.goto (-61), 3) := by decide +kernel
theorem dX1_checkSizes_66 : decode cX1_checkSizes 66 = .ok (.return_, 1) := by decide +kernel
theorem dX1_functionOf_0 : decode cX1_functionOf 0 = .ok (.aload_n 0, 1) := by decide +kernel
theorem dX1_functionOf_1 : decode cX1_functionOf 1 = .ok (.getfield 17, 3) := by decide +kernel
theorem dX1_functionOf_4 : decode cX1_functionOf 4 = .ok (.iload_n 1, 1) := by decide +kernel
theorem dX1_functionOf_5 : decode cX1_functionOf 5 = .ok (.iaload, 1) := by decide +kernel
theorem dX1_functionOf_6 : decode cX1_functionOf 6 = .ok (.ifCond .ge 15, 3) := by decide +kernel
theorem dX1_functionOf_9 : decode cX1_functionOf 9 = .ok (.aload_n 0, 1) := by decide +kernel
theorem dX1_functionOf_10 : decode cX1_functionOf 10 = .ok (.getfield 17, 3) := by decide +kernel
theorem dX1_functionOf_13 : decode cX1_functionOf 13 = .ok (.iload_n 1, 1) := by decide +kernel
theorem dX1_functionOf_14 : decode cX1_functionOf 14 = .ok (.iaload, 1) := by decide +kernel
theorem dX1_functionOf_15 : decode cX1_functionOf 15 = .ok (.ineg, 1) := by decide +kernel
theorem dX1_functionOf_16 : decode cX1_functionOf 16 = .ok (.iconst 1, 1) := by decide +kernel
theorem dX1_functionOf_17 : decode cX1_functionOf 17 = .ok (.isub, 1) := by decide +kernel
theorem dX1_functionOf_18 : decode cX1_functionOf 18 = .ok (.goto 4, 3) := by decide +kernel
theorem dX1_functionOf_21 : decode cX1_functionOf 21 = .ok (.iconst (-1), 1) := by decide +kernel
theorem dX1_functionOf_22 : decode cX1_functionOf 22 = .ok (.ireturn, 1) := by decide +kernel
theorem dX1_init_0 : decode cX1_init 0 = .ok (.aload_n 0, 1) := by decide +kernel
theorem dX1_init_1 : decode cX1_init 1 = .ok (.invokespecial 3, 3) := by decide +kernel
theorem dX1_init_4 : decode cX1_init 4 = .ok (.aload_n 0, 1) := by decide +kernel
theorem dX1_init_5 : decode cX1_init 5 = .ok (.bipush 40, 2) := by decide +kernel
theorem dX1_init_7 : decode cX1_init 7 = .ok (.anewarray 9, 3) := by decide +kernel
theorem dX1_init_10 : decode cX1_init 10 = .ok (.putfield 11, 3) := by decide +kernel
theorem dX1_init_13 : decode cX1_init 13 = .ok (.aload_n 0, 1) := by decide +kernel
theorem dX1_init_14 : decode cX1_init 14 = .ok (.sipush 3020, 3) := by decide +kernel
theorem dX1_init_17 : decode cX1_init 17 = .ok (.newarray .int, 2) := by decide +kernel
theorem dX1_init_19 : decode cX1_init 19 = .ok (.putfield 17, 3) := by decide +kernel
theorem dX1_init_22 : decode cX1_init 22 = .ok (.aload_n 0, 1) := by decide +kernel
theorem dX1_init_23 : decode cX1_init 23 = .ok (.aload_n 1, 1) := by decide +kernel
theorem dX1_init_24 : decode cX1_init 24 = .ok (.putfield 21, 3) := by decide +kernel
theorem dX1_init_27 : decode cX1_init 27 = .ok (.aload_n 0, 1) := by decide +kernel
theorem dX1_init_28 : decode cX1_init 28 = .ok (.aload_n 2, 1) := by decide +kernel
theorem dX1_init_29 : decode cX1_init 29 = .ok (.putfield 25, 3) := by decide +kernel
theorem dX1_init_32 : decode cX1_init 32 = .ok (.iconst 0, 1) := by decide +kernel
theorem dX1_init_33 : decode cX1_init 33 = .ok (.istore_n 3, 1) := by decide +kernel
theorem dX1_init_34 : decode cX1_init 34 = .ok (.iload_n 3, 1) := by decide +kernel
theorem dX1_init_35 : decode cX1_init 35 = .ok (.bipush 40, 2) := by decide +kernel
theorem dX1_init_37 : decode cX1_init 37 = .ok (.if_icmp .ge 22, 3) := by decide +kernel
theorem dX1_init_40 : decode cX1_init 40 = .ok (.aload_n 0, 1) := by decide +kernel
theorem dX1_init_41 : decode cX1_init 41 = .ok (.getfield 11, 3) := by decide +kernel
theorem dX1_init_44 : decode cX1_init 44 = .ok (.iload_n 3, 1) := by decide +kernel
theorem dX1_init_45 : decode cX1_init 45 = .ok (.new 9, 3) := by decide +kernel
theorem dX1_init_48 : decode cX1_init 48 = .ok (.dup, 1) := by decide +kernel
theorem dX1_init_49 : decode cX1_init 49 = .ok (.invokespecial 29, 3) := by decide +kernel
theorem dX1_init_52 : decode cX1_init 52 = .ok (.aastore, 1) := by decide +kernel
theorem dX1_init_53 : decode cX1_init 53 = .ok (.iinc 3 1, 3) := by decide +kernel
theorem dX1_init_56 : decode cX1_init 56 = .ok (.goto (-22), 3) := by decide +kernel
theorem dX1_init_59 : decode cX1_init 59 = .ok (.return_, 1) := by decide +kernel
theorem dX1_namedType_0 : decode cX1_namedType 0 = .ok (.aload_n 0, 1) := by decide +kernel
theorem dX1_namedType_1 : decode cX1_namedType 1 = .ok (.getfield 17, 3) := by decide +kernel
theorem dX1_namedType_4 : decode cX1_namedType 4 = .ok (.iload_n 1, 1) := by decide +kernel
theorem dX1_namedType_5 : decode cX1_namedType 5 = .ok (.iaload, 1) := by decide +kernel
theorem dX1_namedType_6 : decode cX1_namedType 6 = .ok (.ifCond .gt 14, 3) := by decide +kernel
theorem dX1_namedType_9 : decode cX1_namedType 9 = .ok (.aload_n 0, 1) := by decide +kernel
theorem dX1_namedType_10 : decode cX1_namedType 10 = .ok (.getfield 21, 3) := by decide +kernel
theorem dX1_namedType_13 : decode cX1_namedType 13 = .ok (.iconst 3, 1) := by decide +kernel
theorem dX1_namedType_14 : decode cX1_namedType 14 = .ok (.iload_n 2, 1) := by decide +kernel
theorem dX1_namedType_15 : decode cX1_namedType 15 = .ok (.invokevirtual 88, 3) := by decide +kernel
theorem dX1_namedType_18 : decode cX1_namedType 18 = .ok (.iconst 0, 1) := by decide +kernel
theorem dX1_namedType_19 : decode cX1_namedType 19 = .ok (.ireturn, 1) := by decide +kernel
theorem dX1_namedType_20 : decode cX1_namedType 20 = .ok (.iconst 4, 1) := by decide +kernel
theorem dX1_namedType_21 : decode cX1_namedType 21 = .ok (.aload_n 0, 1) := by decide +kernel
theorem dX1_namedType_22 : decode cX1_namedType 22 = .ok (.getfield 17, 3) := by decide +kernel
theorem dX1_namedType_25 : decode cX1_namedType 25 = .ok (.iload_n 1, 1) := by decide +kernel
theorem dX1_namedType_26 : decode cX1_namedType 26 = .ok (.iaload, 1) := by decide +kernel
theorem dX1_namedType_27 : decode cX1_namedType 27 = .ok (.iadd, 1) := by decide +kernel
theorem dX1_namedType_28 : decode cX1_namedType 28 = .ok (.iconst 1, 1) := by decide +kernel
theorem dX1_namedType_29 : decode cX1_namedType 29 = .ok (.isub, 1) := by decide +kernel
theorem dX1_namedType_30 : decode cX1_namedType 30 = .ok (.ireturn, 1) := by decide +kernel
theorem dX1_read_0 : decode cX1_read 0 = .ok (.aload_n 0, 1) := by decide +kernel
theorem dX1_read_1 : decode cX1_read 1 = .ok (.iconst 0, 1) := by decide +kernel
theorem dX1_read_2 : decode cX1_read 2 = .ok (.putfield 30, 3) := by decide +kernel
theorem dX1_read_5 : decode cX1_read 5 = .ok (.aload_n 0, 1) := by decide +kernel
theorem dX1_read_6 : decode cX1_read 6 = .ok (.getfield 25, 3) := by decide +kernel
theorem dX1_read_9 : decode cX1_read 9 = .ok (.invokevirtual 34, 3) := by decide +kernel
theorem dX1_read_12 : decode cX1_read 12 = .ok (.aload_n 0, 1) := by decide +kernel
theorem dX1_read_13 : decode cX1_read 13 = .ok (.getfield 17, 3) := by decide +kernel
theorem dX1_read_16 : decode cX1_read 16 = .ok (.iconst 0, 1) := by decide +kernel
theorem dX1_read_17 : decode cX1_read 17 = .ok (.aload_n 0, 1) := by decide +kernel
theorem dX1_read_18 : decode cX1_read 18 = .ok (.getfield 21, 3) := by decide +kernel
theorem dX1_read_21 : decode cX1_read 21 = .ok (.getfield 39, 3) := by decide +kernel
theorem dX1_read_24 : decode cX1_read 24 = .ok (.iconst 0, 1) := by decide +kernel
theorem dX1_read_25 : decode cX1_read 25 = .ok (.invokestatic 44, 3) := by decide +kernel
theorem dX1_read_28 : decode cX1_read 28 = .ok (.iconst 0, 1) := by decide +kernel
theorem dX1_read_29 : decode cX1_read 29 = .ok (.istore_n 2, 1) := by decide +kernel
theorem dX1_read_30 : decode cX1_read 30 = .ok (.iload_n 2, 1) := by decide +kernel
theorem dX1_read_31 : decode cX1_read 31 = .ok (.aload_n 1, 1) := by decide +kernel
theorem dX1_read_32 : decode cX1_read 32 = .ok (.getfield 50, 3) := by decide +kernel
theorem dX1_read_35 : decode cX1_read 35 = .ok (.if_icmp .ge 29, 3) := by decide +kernel
theorem dX1_read_38 : decode cX1_read 38 = .ok (.aload_n 0, 1) := by decide +kernel
theorem dX1_read_39 : decode cX1_read 39 = .ok (.getfield 21, 3) := by decide +kernel
theorem dX1_read_42 : decode cX1_read 42 = .ok (.getfield 53, 3) := by decide +kernel
theorem dX1_read_45 : decode cX1_read 45 = .ok (.ifCond .ne 19, 3) := by decide +kernel
theorem dX1_read_48 : decode cX1_read 48 = .ok (.aload_n 0, 1) := by decide +kernel
theorem dX1_read_49 : decode cX1_read 49 = .ok (.aload_n 1, 1) := by decide +kernel
theorem dX1_read_50 : decode cX1_read 50 = .ok (.getfield 56, 3) := by decide +kernel
theorem dX1_read_53 : decode cX1_read 53 = .ok (.iload_n 2, 1) := by decide +kernel
theorem dX1_read_54 : decode cX1_read 54 = .ok (.iaload, 1) := by decide +kernel
theorem dX1_read_55 : decode cX1_read 55 = .ok (.invokevirtual 59, 3) := by decide +kernel
theorem dX1_read_58 : decode cX1_read 58 = .ok (.iinc 2 1, 3) := by decide +kernel
theorem dX1_read_61 : decode cX1_read 61 = .ok (.goto (-31), 3) := by decide +kernel
theorem dX1_read_64 : decode cX1_read 64 = .ok (.iconst 0, 1) := by decide +kernel
theorem dX1_read_65 : decode cX1_read 65 = .ok (.istore_n 2, 1) := by decide +kernel
theorem dX1_read_66 : decode cX1_read 66 = .ok (.iload_n 2, 1) := by decide +kernel
theorem dX1_read_67 : decode cX1_read 67 = .ok (.aload_n 1, 1) := by decide +kernel
theorem dX1_read_68 : decode cX1_read 68 = .ok (.getfield 50, 3) := by decide +kernel
theorem dX1_read_71 : decode cX1_read 71 = .ok (.if_icmp .ge 29, 3) := by decide +kernel
theorem dX1_read_74 : decode cX1_read 74 = .ok (.aload_n 0, 1) := by decide +kernel
theorem dX1_read_75 : decode cX1_read 75 = .ok (.getfield 21, 3) := by decide +kernel
theorem dX1_read_78 : decode cX1_read 78 = .ok (.getfield 53, 3) := by decide +kernel
theorem dX1_read_81 : decode cX1_read 81 = .ok (.ifCond .ne 19, 3) := by decide +kernel
theorem dX1_read_84 : decode cX1_read 84 = .ok (.aload_n 0, 1) := by decide +kernel
theorem dX1_read_85 : decode cX1_read 85 = .ok (.aload_n 1, 1) := by decide +kernel
theorem dX1_read_86 : decode cX1_read 86 = .ok (.getfield 56, 3) := by decide +kernel
theorem dX1_read_89 : decode cX1_read 89 = .ok (.iload_n 2, 1) := by decide +kernel
theorem dX1_read_90 : decode cX1_read 90 = .ok (.iaload, 1) := by decide +kernel
theorem dX1_read_91 : decode cX1_read 91 = .ok (.invokevirtual 63, 3) := by decide +kernel
theorem dX1_read_94 : decode cX1_read 94 = .ok (.iinc 2 1, 3) := by decide +kernel
theorem dX1_read_97 : decode cX1_read 97 = .ok (.goto (-31), 3) := by decide +kernel
theorem dX1_read_100 : decode cX1_read 100 = .ok (.aload_n 0, 1) := by decide +kernel
theorem dX1_read_101 : decode cX1_read 101 = .ok (.getfield 21, 3) := by decide +kernel
theorem dX1_read_104 : decode cX1_read 104 = .ok (.getfield 53, 3) := by decide +kernel
theorem dX1_read_107 : decode cX1_read 107 = .ok (.ifCond .ne 14, 3) := by decide +kernel
theorem dX1_read_110 : decode cX1_read 110 = .ok (.aload_n 0, 1) := by decide +kernel
theorem dX1_read_111 : decode cX1_read 111 = .ok (.getfield 25, 3) := by decide +kernel
theorem dX1_read_114 : decode cX1_read 114 = .ok (.invokevirtual 66, 3) := by decide +kernel
theorem dX1_read_117 : decode cX1_read 117 = .ok (.aload_n 0, 1) := by decide +kernel
theorem dX1_read_118 : decode cX1_read 118 = .ok (.invokevirtual 69, 3) := by decide +kernel
theorem dX1_read_121 : decode cX1_read 121 = .ok (.aload_n 0, 1) := by decide +kernel
theorem dX1_read_122 : decode cX1_read 122 = .ok (.getfield 21, 3) := by decide +kernel
theorem dX1_read_125 : decode cX1_read 125 = .ok (.getfield 53, 3) := by decide +kernel
theorem dX1_read_128 : decode cX1_read 128 = .ok (.ifCond .ne 7, 3) := by decide +kernel
theorem dX1_read_131 : decode cX1_read 131 = .ok (.aload_n 0, 1) := by decide +kernel
theorem dX1_read_132 : decode cX1_read 132 = .ok (.invokevirtual 72, 3) := by decide +kernel
theorem dX1_read_135 : decode cX1_read 135 = .ok (.return_, 1) := by decide +kernel
theorem dX1_readEnum_0 : decode cX1_readEnum 0 = .ok (.aload_n 0, 1) := by decide +kernel
theorem dX1_readEnum_1 : decode cX1_readEnum 1 = .ok (.getfield 21, 3) := by decide +kernel
theorem dX1_readEnum_4 : decode cX1_readEnum 4 = .ok (.iconst 1, 1) := by decide +kernel
theorem dX1_readEnum_5 : decode cX1_readEnum 5 = .ok (.invokevirtual 105, 3) := by decide +kernel
theorem dX1_readEnum_8 : decode cX1_readEnum 8 = .ok (.iconst 0, 1) := by decide +kernel
theorem dX1_readEnum_9 : decode cX1_readEnum 9 = .ok (.istore_n 2, 1) := by decide +kernel
theorem dX1_readEnum_10 : decode cX1_readEnum 10 = .ok (.iload_n 2, 1) := by decide +kernel
theorem dX1_readEnum_11 : decode cX1_readEnum 11 = .ok (.bipush 12, 2) := by decide +kernel
theorem dX1_readEnum_13 : decode cX1_readEnum 13 = .ok (.if_icmp .ge 94, 3) := by decide +kernel
theorem dX1_readEnum_16 : decode cX1_readEnum 16 = .ok (.aload_n 0, 1) := by decide +kernel
theorem dX1_readEnum_17 : decode cX1_readEnum 17 = .ok (.getfield 21, 3) := by decide +kernel
theorem dX1_readEnum_20 : decode cX1_readEnum 20 = .ok (.invokevirtual 124, 3) := by decide +kernel
theorem dX1_readEnum_23 : decode cX1_readEnum 23 = .ok (.iconst 2, 1) := by decide +kernel
theorem dX1_readEnum_24 : decode cX1_readEnum 24 = .ok (.if_icmp .ne 83, 3) := by decide +kernel
theorem dX1_readEnum_27 : decode cX1_readEnum 27 = .ok (.aload_n 0, 1) := by decide +kernel
theorem dX1_readEnum_28 : decode cX1_readEnum 28 = .ok (.getfield 21, 3) := by decide +kernel
theorem dX1_readEnum_31 : decode cX1_readEnum 31 = .ok (.getfield 82, 3) := by decide +kernel
theorem dX1_readEnum_34 : decode cX1_readEnum 34 = .ok (.aload_n 0, 1) := by decide +kernel
theorem dX1_readEnum_35 : decode cX1_readEnum 35 = .ok (.getfield 21, 3) := by decide +kernel
theorem dX1_readEnum_38 : decode cX1_readEnum 38 = .ok (.getfield 102, 3) := by decide +kernel
theorem dX1_readEnum_41 : decode cX1_readEnum 41 = .ok (.iaload, 1) := by decide +kernel
theorem dX1_readEnum_42 : decode cX1_readEnum 42 = .ok (.istore_n 3, 1) := by decide +kernel
theorem dX1_readEnum_43 : decode cX1_readEnum 43 = .ok (.aload_n 0, 1) := by decide +kernel
theorem dX1_readEnum_44 : decode cX1_readEnum 44 = .ok (.getfield 25, 3) := by decide +kernel
theorem dX1_readEnum_47 : decode cX1_readEnum 47 = .ok (.iload_n 1, 1) := by decide +kernel
theorem dX1_readEnum_48 : decode cX1_readEnum 48 = .ok (.iload_n 3, 1) := by decide +kernel
theorem dX1_readEnum_49 : decode cX1_readEnum 49 = .ok (.invokevirtual 141, 3) := by decide +kernel
theorem dX1_readEnum_52 : decode cX1_readEnum 52 = .ok (.ifCond .lt 18, 3) := by decide +kernel
theorem dX1_readEnum_55 : decode cX1_readEnum 55 = .ok (.aload_n 0, 1) := by decide +kernel
theorem dX1_readEnum_56 : decode cX1_readEnum 56 = .ok (.getfield 21, 3) := by decide +kernel
theorem dX1_readEnum_59 : decode cX1_readEnum 59 = .ok (.iconst 3, 1) := by decide +kernel
theorem dX1_readEnum_60 : decode cX1_readEnum 60 = .ok (.aload_n 0, 1) := by decide +kernel
theorem dX1_readEnum_61 : decode cX1_readEnum 61 = .ok (.getfield 21, 3) := by decide +kernel
theorem dX1_readEnum_64 : decode cX1_readEnum 64 = .ok (.invokevirtual 130, 3) := by decide +kernel
theorem dX1_readEnum_67 : decode cX1_readEnum 67 = .ok (.invokevirtual 88, 3) := by decide +kernel
theorem dX1_readEnum_70 : decode cX1_readEnum 70 = .ok (.aload_n 0, 1) := by decide +kernel
theorem dX1_readEnum_71 : decode cX1_readEnum 71 = .ok (.getfield 21, 3) := by decide +kernel
theorem dX1_readEnum_74 : decode cX1_readEnum 74 = .ok (.iconst 1, 1) := by decide +kernel
theorem dX1_readEnum_75 : decode cX1_readEnum 75 = .ok (.invokevirtual 105, 3) := by decide +kernel
theorem dX1_readEnum_78 : decode cX1_readEnum 78 = .ok (.aload_n 0, 1) := by decide +kernel
theorem dX1_readEnum_79 : decode cX1_readEnum 79 = .ok (.aload_n 0, 1) := by decide +kernel
theorem dX1_readEnum_80 : decode cX1_readEnum 80 = .ok (.getfield 25, 3) := by decide +kernel
theorem dX1_readEnum_83 : decode cX1_readEnum 83 = .ok (.iload_n 1, 1) := by decide +kernel
theorem dX1_readEnum_84 : decode cX1_readEnum 84 = .ok (.iload_n 3, 1) := by decide +kernel
theorem dX1_readEnum_85 : decode cX1_readEnum 85 = .ok (.invokevirtual 121, 3) := by decide +kernel
theorem dX1_readEnum_88 : decode cX1_readEnum 88 = .ok (.invokevirtual 144, 3) := by decide +kernel
theorem dX1_readEnum_91 : decode cX1_readEnum 91 = .ok (.aload_n 0, 1) := by decide +kernel
theorem dX1_readEnum_92 : decode cX1_readEnum 92 = .ok (.getfield 21, 3) := by decide +kernel
theorem dX1_readEnum_95 : decode cX1_readEnum 95 = .ok (.bipush 44, 2) := by decide +kernel
theorem dX1_readEnum_97 : decode cX1_readEnum 97 = .ok (.invokevirtual 137, 3) := by decide +kernel
theorem dX1_readEnum_100 : decode cX1_readEnum 100 = .ok (.pop, 1) := by decide +kernel
theorem dX1_readEnum_101 : decode cX1_readEnum 101 = .ok (.iinc 2 1, 3) := by decide +kernel
theorem dX1_readEnum_104 : decode cX1_readEnum 104 = .ok (.goto (-94), 3) := by decide +kernel
theorem dX1_readEnum_107 : decode cX1_readEnum 107 = .ok (.return_, 1) := by decide +kernel
theorem dX1_readFunction_0 : decode cX1_readFunction 0 = .ok (.aload_n 0, 1) := by decide +kernel
theorem dX1_readFunction_1 : decode cX1_readFunction 1 = .ok (.getfield 21, 3) := by decide +kernel
theorem dX1_readFunction_4 : decode cX1_readFunction 4 = .ok (.bipush 60, 2) := by decide +kernel
theorem dX1_readFunction_6 : decode cX1_readFunction 6 = .ok (.invokevirtual 137, 3) := by decide +kernel
theorem dX1_readFunction_9 : decode cX1_readFunction 9 = .ok (.ifCond .eq 7, 3) := by decide +kernel
theorem dX1_readFunction_12 : decode cX1_readFunction 12 = .ok (.aload_n 0, 1) := by decide +kernel
theorem dX1_readFunction_13 : decode cX1_readFunction 13 = .ok (.invokevirtual 147, 3) := by decide +kernel
theorem dX1_readFunction_16 : decode cX1_readFunction 16 = .ok (.aload_n 0, 1) := by decide +kernel
theorem dX1_readFunction_17 : decode cX1_readFunction 17 = .ok (.invokevirtual 150, 3) := by decide +kernel
theorem dX1_readFunction_20 : decode cX1_readFunction 20 = .ok (.aload_n 0, 1) := by decide +kernel
theorem dX1_readFunction_21 : decode cX1_readFunction 21 = .ok (.getfield 21, 3) := by decide +kernel
theorem dX1_readFunction_24 : decode cX1_readFunction 24 = .ok (.sipush 135, 3) := by decide +kernel
theorem dX1_readFunction_27 : decode cX1_readFunction 27 = .ok (.invokevirtual 137, 3) := by decide +kernel
theorem dX1_readFunction_30 : decode cX1_readFunction 30 = .ok (.ifCond .eq 28, 3) := by decide +kernel
theorem dX1_readFunction_33 : decode cX1_readFunction 33 = .ok (.aload_n 0, 1) := by decide +kernel
theorem dX1_readFunction_34 : decode cX1_readFunction 34 = .ok (.getfield 108, 3) := by decide +kernel
theorem dX1_readFunction_37 : decode cX1_readFunction 37 = .ok (.aload_n 0, 1) := by decide +kernel
theorem dX1_readFunction_38 : decode cX1_readFunction 38 = .ok (.iconst 1, 1) := by decide +kernel
theorem dX1_readFunction_39 : decode cX1_readFunction 39 = .ok (.iconst 1, 1) := by decide +kernel
theorem dX1_readFunction_40 : decode cX1_readFunction 40 = .ok (.iconst 0, 1) := by decide +kernel
theorem dX1_readFunction_41 : decode cX1_readFunction 41 = .ok (.invokevirtual 78, 3) := by decide +kernel
theorem dX1_readFunction_44 : decode cX1_readFunction 44 = .ok (.putfield 153, 3) := by decide +kernel
theorem dX1_readFunction_47 : decode cX1_readFunction 47 = .ok (.aload_n 0, 1) := by decide +kernel
theorem dX1_readFunction_48 : decode cX1_readFunction 48 = .ok (.getfield 108, 3) := by decide +kernel
theorem dX1_readFunction_51 : decode cX1_readFunction 51 = .ok (.aload_n 0, 1) := by decide +kernel
theorem dX1_readFunction_52 : decode cX1_readFunction 52 = .ok (.getfield 156, 3) := by decide +kernel
theorem dX1_readFunction_55 : decode cX1_readFunction 55 = .ok (.putfield 159, 3) := by decide +kernel
theorem dX1_readFunction_58 : decode cX1_readFunction 58 = .ok (.aload_n 0, 1) := by decide +kernel
theorem dX1_readFunction_59 : decode cX1_readFunction 59 = .ok (.getfield 108, 3) := by decide +kernel
theorem dX1_readFunction_62 : decode cX1_readFunction 62 = .ok (.aload_n 0, 1) := by decide +kernel
theorem dX1_readFunction_63 : decode cX1_readFunction 63 = .ok (.getfield 21, 3) := by decide +kernel
theorem dX1_readFunction_66 : decode cX1_readFunction 66 = .ok (.getfield 102, 3) := by decide +kernel
theorem dX1_readFunction_69 : decode cX1_readFunction 69 = .ok (.putfield 162, 3) := by decide +kernel
theorem dX1_readFunction_72 : decode cX1_readFunction 72 = .ok (.return_, 1) := by decide +kernel
theorem dX1_readItem_0 : decode cX1_readItem 0 = .ok (.aload_n 0, 1) := by decide +kernel
theorem dX1_readItem_1 : decode cX1_readItem 1 = .ok (.getfield 17, 3) := by decide +kernel
theorem dX1_readItem_4 : decode cX1_readItem 4 = .ok (.aload_n 0, 1) := by decide +kernel
theorem dX1_readItem_5 : decode cX1_readItem 5 = .ok (.getfield 21, 3) := by decide +kernel
theorem dX1_readItem_8 : decode cX1_readItem 8 = .ok (.getfield 82, 3) := by decide +kernel
theorem dX1_readItem_11 : decode cX1_readItem 11 = .ok (.iload_n 1, 1) := by decide +kernel
theorem dX1_readItem_12 : decode cX1_readItem 12 = .ok (.iconst 1, 1) := by decide +kernel
theorem dX1_readItem_13 : decode cX1_readItem 13 = .ok (.iadd, 1) := by decide +kernel
theorem dX1_readItem_14 : decode cX1_readItem 14 = .ok (.iaload, 1) := by decide +kernel
theorem dX1_readItem_15 : decode cX1_readItem 15 = .ok (.iaload, 1) := by decide +kernel
theorem dX1_readItem_16 : decode cX1_readItem 16 = .ok (.istore_n 2, 1) := by decide +kernel
theorem dX1_readItem_17 : decode cX1_readItem 17 = .ok (.aload_n 0, 1) := by decide +kernel
theorem dX1_readItem_18 : decode cX1_readItem 18 = .ok (.getfield 21, 3) := by decide +kernel
theorem dX1_readItem_21 : decode cX1_readItem 21 = .ok (.iload_n 1, 1) := by decide +kernel
theorem dX1_readItem_22 : decode cX1_readItem 22 = .ok (.putfield 102, 3) := by decide +kernel
theorem dX1_readItem_25 : decode cX1_readItem 25 = .ok (.aload_n 0, 1) := by decide +kernel
theorem dX1_readItem_26 : decode cX1_readItem 26 = .ok (.getfield 21, 3) := by decide +kernel
theorem dX1_readItem_29 : decode cX1_readItem 29 = .ok (.iconst 2, 1) := by decide +kernel
theorem dX1_readItem_30 : decode cX1_readItem 30 = .ok (.invokevirtual 105, 3) := by decide +kernel
theorem dX1_readItem_33 : decode cX1_readItem 33 = .ok (.iload_n 2, 1) := by decide +kernel
theorem dX1_readItem_34 : decode cX1_readItem 34 = .ok (.ifCond .ge 23, 3) := by decide +kernel
theorem dX1_readItem_37 : decode cX1_readItem 37 = .ok (.aload_n 0, 1) := by decide +kernel
theorem dX1_readItem_38 : decode cX1_readItem 38 = .ok (.aload_n 0, 1) := by decide +kernel
theorem dX1_readItem_39 : decode cX1_readItem 39 = .ok (.getfield 11, 3) := by decide +kernel
theorem dX1_readItem_42 : decode cX1_readItem 42 = .ok (.iload_n 2, 1) := by decide +kernel
theorem dX1_readItem_43 : decode cX1_readItem 43 = .ok (.ineg, 1) := by decide +kernel
theorem dX1_readItem_44 : decode cX1_readItem 44 = .ok (.iconst 1, 1) := by decide +kernel
theorem dX1_readItem_45 : decode cX1_readItem 45 = .ok (.isub, 1) := by decide +kernel
theorem dX1_readItem_46 : decode cX1_readItem 46 = .ok (.aaload, 1) := by decide +kernel
theorem dX1_readItem_47 : decode cX1_readItem 47 = .ok (.putfield 108, 3) := by decide +kernel
theorem dX1_readItem_50 : decode cX1_readItem 50 = .ok (.aload_n 0, 1) := by decide +kernel
theorem dX1_readItem_51 : decode cX1_readItem 51 = .ok (.invokevirtual 112, 3) := by decide +kernel
theorem dX1_readItem_54 : decode cX1_readItem 54 = .ok (.goto 33, 3) := by decide +kernel
theorem dX1_readItem_57 : decode cX1_readItem 57 = .ok (.aload_n 0, 1) := by decide +kernel
theorem dX1_readItem_58 : decode cX1_readItem 58 = .ok (.getfield 21, 3) := by decide +kernel
theorem dX1_readItem_61 : decode cX1_readItem 61 = .ok (.getfield 92, 3) := by decide +kernel
theorem dX1_readItem_64 : decode cX1_readItem 64 = .ok (.iload_n 1, 1) := by decide +kernel
theorem dX1_readItem_65 : decode cX1_readItem 65 = .ok (.iaload, 1) := by decide +kernel
theorem dX1_readItem_66 : decode cX1_readItem 66 = .ok (.iconst 5, 1) := by decide +kernel
theorem dX1_readItem_67 : decode cX1_readItem 67 = .ok (.if_icmp .ne 13, 3) := by decide +kernel
theorem dX1_readItem_70 : decode cX1_readItem 70 = .ok (.aload_n 0, 1) := by decide +kernel
theorem dX1_readItem_71 : decode cX1_readItem 71 = .ok (.iload_n 2, 1) := by decide +kernel
theorem dX1_readItem_72 : decode cX1_readItem 72 = .ok (.iconst 1, 1) := by decide +kernel
theorem dX1_readItem_73 : decode cX1_readItem 73 = .ok (.isub, 1) := by decide +kernel
theorem dX1_readItem_74 : decode cX1_readItem 74 = .ok (.invokevirtual 115, 3) := by decide +kernel
theorem dX1_readItem_77 : decode cX1_readItem 77 = .ok (.goto 10, 3) := by decide +kernel
theorem dX1_readItem_80 : decode cX1_readItem 80 = .ok (.aload_n 0, 1) := by decide +kernel
theorem dX1_readItem_81 : decode cX1_readItem 81 = .ok (.iload_n 2, 1) := by decide +kernel
theorem dX1_readItem_82 : decode cX1_readItem 82 = .ok (.iconst 1, 1) := by decide +kernel
theorem dX1_readItem_83 : decode cX1_readItem 83 = .ok (.isub, 1) := by decide +kernel
theorem dX1_readItem_84 : decode cX1_readItem 84 = .ok (.invokevirtual 118, 3) := by decide +kernel
theorem dX1_readItem_87 : decode cX1_readItem 87 = .ok (.return_, 1) := by decide +kernel
theorem dX1_readLetType_0 : decode cX1_readLetType 0 = .ok (.aload_n 0, 1) := by decide +kernel
theorem dX1_readLetType_1 : decode cX1_readLetType 1 = .ok (.iconst 1, 1) := by decide +kernel
theorem dX1_readLetType_2 : decode cX1_readLetType 2 = .ok (.iconst 2, 1) := by decide +kernel
theorem dX1_readLetType_3 : decode cX1_readLetType 3 = .ok (.iconst 0, 1) := by decide +kernel
theorem dX1_readLetType_4 : decode cX1_readLetType 4 = .ok (.invokevirtual 78, 3) := by decide +kernel
theorem dX1_readLetType_7 : decode cX1_readLetType 7 = .ok (.ireturn, 1) := by decide +kernel
theorem dX1_readLife_0 : decode cX1_readLife 0 = .ok (.iload_n 2, 1) := by decide +kernel
theorem dX1_readLife_1 : decode cX1_readLife 1 = .ok (.iconst 2, 1) := by decide +kernel
theorem dX1_readLife_2 : decode cX1_readLife 2 = .ok (.if_icmp .ne 21, 3) := by decide +kernel
theorem dX1_readLife_5 : decode cX1_readLife 5 = .ok (.aload_n 0, 1) := by decide +kernel
theorem dX1_readLife_6 : decode cX1_readLife 6 = .ok (.getfield 21, 3) := by decide +kernel
theorem dX1_readLife_9 : decode cX1_readLife 9 = .ok (.iconst 4, 1) := by decide +kernel
theorem dX1_readLife_10 : decode cX1_readLife 10 = .ok (.aload_n 0, 1) := by decide +kernel
theorem dX1_readLife_11 : decode cX1_readLife 11 = .ok (.getfield 21, 3) := by decide +kernel
theorem dX1_readLife_14 : decode cX1_readLife 14 = .ok (.getfield 85, 3) := by decide +kernel
theorem dX1_readLife_17 : decode cX1_readLife 17 = .ok (.iload_n 1, 1) := by decide +kernel
theorem dX1_readLife_18 : decode cX1_readLife 18 = .ok (.iaload, 1) := by decide +kernel
theorem dX1_readLife_19 : decode cX1_readLife 19 = .ok (.invokevirtual 88, 3) := by decide +kernel
theorem dX1_readLife_22 : decode cX1_readLife 22 = .ok (.return_, 1) := by decide +kernel
theorem dX1_readLife_23 : decode cX1_readLife 23 = .ok (.aload_n 0, 1) := by decide +kernel
theorem dX1_readLife_24 : decode cX1_readLife 24 = .ok (.aload_n 0, 1) := by decide +kernel
theorem dX1_readLife_25 : decode cX1_readLife 25 = .ok (.getfield 108, 3) := by decide +kernel
theorem dX1_readLife_28 : decode cX1_readLife 28 = .ok (.aload_n 0, 1) := by decide +kernel
theorem dX1_readLife_29 : decode cX1_readLife 29 = .ok (.getfield 21, 3) := by decide +kernel
theorem dX1_readLife_32 : decode cX1_readLife 32 = .ok (.getfield 82, 3) := by decide +kernel
theorem dX1_readLife_35 : decode cX1_readLife 35 = .ok (.iload_n 1, 1) := by decide +kernel
theorem dX1_readLife_36 : decode cX1_readLife 36 = .ok (.iaload, 1) := by decide +kernel
theorem dX1_readLife_37 : decode cX1_readLife 37 = .ok (.invokevirtual 165, 3) := by decide +kernel
theorem dX1_readLife_40 : decode cX1_readLife 40 = .ok (.putfield 156, 3) := by decide +kernel
theorem dX1_readLife_43 : decode cX1_readLife 43 = .ok (.aload_n 0, 1) := by decide +kernel
theorem dX1_readLife_44 : decode cX1_readLife 44 = .ok (.getfield 156, 3) := by decide +kernel
theorem dX1_readLife_47 : decode cX1_readLife 47 = .ok (.ifCond .ge 20, 3) := by decide +kernel
theorem dX1_readLife_50 : decode cX1_readLife 50 = .ok (.aload_n 0, 1) := by decide +kernel
theorem dX1_readLife_51 : decode cX1_readLife 51 = .ok (.getfield 21, 3) := by decide +kernel
theorem dX1_readLife_54 : decode cX1_readLife 54 = .ok (.iconst 3, 1) := by decide +kernel
theorem dX1_readLife_55 : decode cX1_readLife 55 = .ok (.aload_n 0, 1) := by decide +kernel
theorem dX1_readLife_56 : decode cX1_readLife 56 = .ok (.getfield 21, 3) := by decide +kernel
theorem dX1_readLife_59 : decode cX1_readLife 59 = .ok (.getfield 85, 3) := by decide +kernel
theorem dX1_readLife_62 : decode cX1_readLife 62 = .ok (.iload_n 1, 1) := by decide +kernel
theorem dX1_readLife_63 : decode cX1_readLife 63 = .ok (.iaload, 1) := by decide +kernel
theorem dX1_readLife_64 : decode cX1_readLife 64 = .ok (.invokevirtual 88, 3) := by decide +kernel
theorem dX1_readLife_67 : decode cX1_readLife 67 = .ok (.return_, 1) := by decide +kernel
theorem dX1_readLives_0 : decode cX1_readLives 0 = .ok (.iconst 0, 1) := by decide +kernel
theorem dX1_readLives_1 : decode cX1_readLives 1 = .ok (.istore_n 1, 1) := by decide +kernel
theorem dX1_readLives_2 : decode cX1_readLives 2 = .ok (.iload_n 1, 1) := by decide +kernel
theorem dX1_readLives_3 : decode cX1_readLives 3 = .ok (.bipush 8, 2) := by decide +kernel
theorem dX1_readLives_5 : decode cX1_readLives 5 = .ok (.if_icmp .ge 103, 3) := by decide +kernel
theorem dX1_readLives_8 : decode cX1_readLives 8 = .ok (.aload_n 0, 1) := by decide +kernel
theorem dX1_readLives_9 : decode cX1_readLives 9 = .ok (.getfield 21, 3) := by decide +kernel
theorem dX1_readLives_12 : decode cX1_readLives 12 = .ok (.invokevirtual 124, 3) := by decide +kernel
theorem dX1_readLives_15 : decode cX1_readLives 15 = .ok (.iconst 3, 1) := by decide +kernel
theorem dX1_readLives_16 : decode cX1_readLives 16 = .ok (.if_icmp .ne 92, 3) := by decide +kernel
theorem dX1_readLives_19 : decode cX1_readLives 19 = .ok (.aload_n 0, 1) := by decide +kernel
theorem dX1_readLives_20 : decode cX1_readLives 20 = .ok (.getfield 21, 3) := by decide +kernel
theorem dX1_readLives_23 : decode cX1_readLives 23 = .ok (.getfield 82, 3) := by decide +kernel
theorem dX1_readLives_26 : decode cX1_readLives 26 = .ok (.aload_n 0, 1) := by decide +kernel
theorem dX1_readLives_27 : decode cX1_readLives 27 = .ok (.getfield 21, 3) := by decide +kernel
theorem dX1_readLives_30 : decode cX1_readLives 30 = .ok (.getfield 102, 3) := by decide +kernel
theorem dX1_readLives_33 : decode cX1_readLives 33 = .ok (.iaload, 1) := by decide +kernel
theorem dX1_readLives_34 : decode cX1_readLives 34 = .ok (.istore_n 2, 1) := by decide +kernel
theorem dX1_readLives_35 : decode cX1_readLives 35 = .ok (.aload_n 0, 1) := by decide +kernel
theorem dX1_readLives_36 : decode cX1_readLives 36 = .ok (.getfield 108, 3) := by decide +kernel
theorem dX1_readLives_39 : decode cX1_readLives 39 = .ok (.iload_n 2, 1) := by decide +kernel
theorem dX1_readLives_40 : decode cX1_readLives 40 = .ok (.invokevirtual 165, 3) := by decide +kernel
theorem dX1_readLives_43 : decode cX1_readLives 43 = .ok (.ifCond .lt 18, 3) := by decide +kernel
theorem dX1_readLives_46 : decode cX1_readLives 46 = .ok (.aload_n 0, 1) := by decide +kernel
theorem dX1_readLives_47 : decode cX1_readLives 47 = .ok (.getfield 21, 3) := by decide +kernel
theorem dX1_readLives_50 : decode cX1_readLives 50 = .ok (.iconst 3, 1) := by decide +kernel
theorem dX1_readLives_51 : decode cX1_readLives 51 = .ok (.aload_n 0, 1) := by decide +kernel
theorem dX1_readLives_52 : decode cX1_readLives 52 = .ok (.getfield 21, 3) := by decide +kernel
theorem dX1_readLives_55 : decode cX1_readLives 55 = .ok (.invokevirtual 130, 3) := by decide +kernel
theorem dX1_readLives_58 : decode cX1_readLives 58 = .ok (.invokevirtual 88, 3) := by decide +kernel
theorem dX1_readLives_61 : decode cX1_readLives 61 = .ok (.aload_n 0, 1) := by decide +kernel
theorem dX1_readLives_62 : decode cX1_readLives 62 = .ok (.getfield 108, 3) := by decide +kernel
theorem dX1_readLives_65 : decode cX1_readLives 65 = .ok (.getfield 169, 3) := by decide +kernel
theorem dX1_readLives_68 : decode cX1_readLives 68 = .ok (.iload_n 1, 1) := by decide +kernel
theorem dX1_readLives_69 : decode cX1_readLives 69 = .ok (.iload_n 2, 1) := by decide +kernel
theorem dX1_readLives_70 : decode cX1_readLives 70 = .ok (.iastore, 1) := by decide +kernel
theorem dX1_readLives_71 : decode cX1_readLives 71 = .ok (.aload_n 0, 1) := by decide +kernel
theorem dX1_readLives_72 : decode cX1_readLives 72 = .ok (.getfield 108, 3) := by decide +kernel
theorem dX1_readLives_75 : decode cX1_readLives 75 = .ok (.dup, 1) := by decide +kernel
theorem dX1_readLives_76 : decode cX1_readLives 76 = .ok (.getfield 172, 3) := by decide +kernel
theorem dX1_readLives_79 : decode cX1_readLives 79 = .ok (.iconst 1, 1) := by decide +kernel
theorem dX1_readLives_80 : decode cX1_readLives 80 = .ok (.iadd, 1) := by decide +kernel
theorem dX1_readLives_81 : decode cX1_readLives 81 = .ok (.putfield 172, 3) := by decide +kernel
theorem dX1_readLives_84 : decode cX1_readLives 84 = .ok (.aload_n 0, 1) := by decide +kernel
theorem dX1_readLives_85 : decode cX1_readLives 85 = .ok (.getfield 21, 3) := by decide +kernel
theorem dX1_readLives_88 : decode cX1_readLives 88 = .ok (.iconst 1, 1) := by decide +kernel
theorem dX1_readLives_89 : decode cX1_readLives 89 = .ok (.invokevirtual 105, 3) := by decide +kernel
theorem dX1_readLives_92 : decode cX1_readLives 92 = .ok (.aload_n 0, 1) := by decide +kernel
theorem dX1_readLives_93 : decode cX1_readLives 93 = .ok (.getfield 21, 3) := by decide +kernel
theorem dX1_readLives_96 : decode cX1_readLives 96 = .ok (.bipush 44, 2) := by decide +kernel
theorem dX1_readLives_98 : decode cX1_readLives 98 = .ok (.invokevirtual 137, 3) := by decide +kernel
theorem dX1_readLives_101 : decode cX1_readLives 101 = .ok (.pop, 1) := by decide +kernel
theorem dX1_readLives_102 : decode cX1_readLives 102 = .ok (.iinc 1 1, 3) := by decide +kernel
theorem dX1_readLives_105 : decode cX1_readLives 105 = .ok (.goto (-103), 3) := by decide +kernel
theorem dX1_readLives_108 : decode cX1_readLives 108 = .ok (.aload_n 0, 1) := by decide +kernel
theorem dX1_readLives_109 : decode cX1_readLives 109 = .ok (.getfield 21, 3) := by decide +kernel
theorem dX1_readLives_112 : decode cX1_readLives 112 = .ok (.bipush 62, 2) := by decide +kernel
theorem dX1_readLives_114 : decode cX1_readLives 114 = .ok (.invokevirtual 137, 3) := by decide +kernel
theorem dX1_readLives_117 : decode cX1_readLives 117 = .ok (.pop, 1) := by decide +kernel
theorem dX1_readLives_118 : decode cX1_readLives 118 = .ok (.return_, 1) := by decide +kernel
theorem dX1_readName_0 : decode cX1_readName 0 = .ok (.aload_n 0, 1) := by decide +kernel
theorem dX1_readName_1 : decode cX1_readName 1 = .ok (.getfield 21, 3) := by decide +kernel
theorem dX1_readName_4 : decode cX1_readName 4 = .ok (.getfield 82, 3) := by decide +kernel
theorem dX1_readName_7 : decode cX1_readName 7 = .ok (.iload_n 1, 1) := by decide +kernel
theorem dX1_readName_8 : decode cX1_readName 8 = .ok (.iconst 1, 1) := by decide +kernel
theorem dX1_readName_9 : decode cX1_readName 9 = .ok (.iadd, 1) := by decide +kernel
theorem dX1_readName_10 : decode cX1_readName 10 = .ok (.iaload, 1) := by decide +kernel
theorem dX1_readName_11 : decode cX1_readName 11 = .ok (.istore_n 2, 1) := by decide +kernel
theorem dX1_readName_12 : decode cX1_readName 12 = .ok (.aload_n 0, 1) := by decide +kernel
theorem dX1_readName_13 : decode cX1_readName 13 = .ok (.getfield 17, 3) := by decide +kernel
theorem dX1_readName_16 : decode cX1_readName 16 = .ok (.iload_n 2, 1) := by decide +kernel
theorem dX1_readName_17 : decode cX1_readName 17 = .ok (.iaload, 1) := by decide +kernel
theorem dX1_readName_18 : decode cX1_readName 18 = .ok (.ifCond .eq 25, 3) := by decide +kernel
theorem dX1_readName_21 : decode cX1_readName 21 = .ok (.aload_n 0, 1) := by decide +kernel
theorem dX1_readName_22 : decode cX1_readName 22 = .ok (.getfield 21, 3) := by decide +kernel
theorem dX1_readName_25 : decode cX1_readName 25 = .ok (.iconst 3, 1) := by decide +kernel
theorem dX1_readName_26 : decode cX1_readName 26 = .ok (.aload_n 0, 1) := by decide +kernel
theorem dX1_readName_27 : decode cX1_readName 27 = .ok (.getfield 21, 3) := by decide +kernel
theorem dX1_readName_30 : decode cX1_readName 30 = .ok (.getfield 85, 3) := by decide +kernel
theorem dX1_readName_33 : decode cX1_readName 33 = .ok (.iload_n 1, 1) := by decide +kernel
theorem dX1_readName_34 : decode cX1_readName 34 = .ok (.iconst 1, 1) := by decide +kernel
theorem dX1_readName_35 : decode cX1_readName 35 = .ok (.iadd, 1) := by decide +kernel
theorem dX1_readName_36 : decode cX1_readName 36 = .ok (.iaload, 1) := by decide +kernel
theorem dX1_readName_37 : decode cX1_readName 37 = .ok (.invokevirtual 88, 3) := by decide +kernel
theorem dX1_readName_40 : decode cX1_readName 40 = .ok (.goto 92, 3) := by decide +kernel
theorem dX1_readName_43 : decode cX1_readName 43 = .ok (.aload_n 0, 1) := by decide +kernel
theorem dX1_readName_44 : decode cX1_readName 44 = .ok (.getfield 21, 3) := by decide +kernel
theorem dX1_readName_47 : decode cX1_readName 47 = .ok (.getfield 92, 3) := by decide +kernel
theorem dX1_readName_50 : decode cX1_readName 50 = .ok (.iload_n 1, 1) := by decide +kernel
theorem dX1_readName_51 : decode cX1_readName 51 = .ok (.iaload, 1) := by decide +kernel
theorem dX1_readName_52 : decode cX1_readName 52 = .ok (.bipush 7, 2) := by decide +kernel
theorem dX1_readName_54 : decode cX1_readName 54 = .ok (.if_icmp .ne 42, 3) := by decide +kernel
theorem dX1_readName_57 : decode cX1_readName 57 = .ok (.aload_n 0, 1) := by decide +kernel
theorem dX1_readName_58 : decode cX1_readName 58 = .ok (.getfield 11, 3) := by decide +kernel
theorem dX1_readName_61 : decode cX1_readName 61 = .ok (.aload_n 0, 1) := by decide +kernel
theorem dX1_readName_62 : decode cX1_readName 62 = .ok (.getfield 30, 3) := by decide +kernel
theorem dX1_readName_65 : decode cX1_readName 65 = .ok (.aaload, 1) := by decide +kernel
theorem dX1_readName_66 : decode cX1_readName 66 = .ok (.iload_n 1, 1) := by decide +kernel
theorem dX1_readName_67 : decode cX1_readName 67 = .ok (.iconst 1, 1) := by decide +kernel
theorem dX1_readName_68 : decode cX1_readName 68 = .ok (.iadd, 1) := by decide +kernel
theorem dX1_readName_69 : decode cX1_readName 69 = .ok (.invokevirtual 95, 3) := by decide +kernel
theorem dX1_readName_72 : decode cX1_readName 72 = .ok (.aload_n 0, 1) := by decide +kernel
theorem dX1_readName_73 : decode cX1_readName 73 = .ok (.dup, 1) := by decide +kernel
theorem dX1_readName_74 : decode cX1_readName 74 = .ok (.getfield 30, 3) := by decide +kernel
theorem dX1_readName_77 : decode cX1_readName 77 = .ok (.iconst 1, 1) := by decide +kernel
theorem dX1_readName_78 : decode cX1_readName 78 = .ok (.iadd, 1) := by decide +kernel
theorem dX1_readName_79 : decode cX1_readName 79 = .ok (.putfield 30, 3) := by decide +kernel
theorem dX1_readName_82 : decode cX1_readName 82 = .ok (.aload_n 0, 1) := by decide +kernel
theorem dX1_readName_83 : decode cX1_readName 83 = .ok (.getfield 17, 3) := by decide +kernel
theorem dX1_readName_86 : decode cX1_readName 86 = .ok (.iload_n 2, 1) := by decide +kernel
theorem dX1_readName_87 : decode cX1_readName 87 = .ok (.aload_n 0, 1) := by decide +kernel
theorem dX1_readName_88 : decode cX1_readName 88 = .ok (.getfield 30, 3) := by decide +kernel
theorem dX1_readName_91 : decode cX1_readName 91 = .ok (.ineg, 1) := by decide +kernel
theorem dX1_readName_92 : decode cX1_readName 92 = .ok (.iastore, 1) := by decide +kernel
theorem dX1_readName_93 : decode cX1_readName 93 = .ok (.goto 39, 3) := by decide +kernel
theorem dX1_readName_96 : decode cX1_readName 96 = .ok (.aload_n 0, 1) := by decide +kernel
theorem dX1_readName_97 : decode cX1_readName 97 = .ok (.getfield 17, 3) := by decide +kernel
theorem dX1_readName_100 : decode cX1_readName 100 = .ok (.iload_n 2, 1) := by decide +kernel
theorem dX1_readName_101 : decode cX1_readName 101 = .ok (.aload_n 0, 1) := by decide +kernel
theorem dX1_readName_102 : decode cX1_readName 102 = .ok (.getfield 25, 3) := by decide +kernel
theorem dX1_readName_105 : decode cX1_readName 105 = .ok (.iload_n 1, 1) := by decide +kernel
theorem dX1_readName_106 : decode cX1_readName 106 = .ok (.iconst 1, 1) := by decide +kernel
theorem dX1_readName_107 : decode cX1_readName 107 = .ok (.iadd, 1) := by decide +kernel
theorem dX1_readName_108 : decode cX1_readName 108 = .ok (.aload_n 0, 1) := by decide +kernel
theorem dX1_readName_109 : decode cX1_readName 109 = .ok (.getfield 21, 3) := by decide +kernel
theorem dX1_readName_112 : decode cX1_readName 112 = .ok (.getfield 92, 3) := by decide +kernel
theorem dX1_readName_115 : decode cX1_readName 115 = .ok (.iload_n 1, 1) := by decide +kernel
theorem dX1_readName_116 : decode cX1_readName 116 = .ok (.iaload, 1) := by decide +kernel
theorem dX1_readName_117 : decode cX1_readName 117 = .ok (.iconst 5, 1) := by decide +kernel
theorem dX1_readName_118 : decode cX1_readName 118 = .ok (.if_icmp .ne 7, 3) := by decide +kernel
theorem dX1_readName_121 : decode cX1_readName 121 = .ok (.iconst 2, 1) := by decide +kernel
theorem dX1_readName_122 : decode cX1_readName 122 = .ok (.goto 4, 3) := by decide +kernel
theorem dX1_readName_125 : decode cX1_readName 125 = .ok (.iconst 3, 1) := by decide +kernel
theorem dX1_readName_126 : decode cX1_readName 126 = .ok (.invokevirtual 98, 3) := by decide +kernel
theorem dX1_readName_129 : decode cX1_readName 129 = .ok (.iconst 1, 1) := by decide +kernel
theorem dX1_readName_130 : decode cX1_readName 130 = .ok (.iadd, 1) := by decide +kernel
theorem dX1_readName_131 : decode cX1_readName 131 = .ok (.iastore, 1) := by decide +kernel
theorem dX1_readName_132 : decode cX1_readName 132 = .ok (.return_, 1) := by decide +kernel
theorem dX1_readParameters_0 : decode cX1_readParameters 0 = .ok (.aload_n 0, 1) := by decide +kernel
theorem dX1_readParameters_1 : decode cX1_readParameters 1 = .ok (.getfield 21, 3) := by decide +kernel
theorem dX1_readParameters_4 : decode cX1_readParameters 4 = .ok (.bipush 40, 2) := by decide +kernel
theorem dX1_readParameters_6 : decode cX1_readParameters 6 = .ok (.invokevirtual 137, 3) := by decide +kernel
theorem dX1_readParameters_9 : decode cX1_readParameters 9 = .ok (.pop, 1) := by decide +kernel
theorem dX1_readParameters_10 : decode cX1_readParameters 10 = .ok (.iconst 0, 1) := by decide +kernel
theorem dX1_readParameters_11 : decode cX1_readParameters 11 = .ok (.istore_n 1, 1) := by decide +kernel
theorem dX1_readParameters_12 : decode cX1_readParameters 12 = .ok (.iload_n 1, 1) := by decide +kernel
theorem dX1_readParameters_13 : decode cX1_readParameters 13 = .ok (.bipush 12, 2) := by decide +kernel
theorem dX1_readParameters_15 : decode cX1_readParameters 15 = .ok (.if_icmp .ge 133, 3) := by decide +kernel
theorem dX1_readParameters_18 : decode cX1_readParameters 18 = .ok (.aload_n 0, 1) := by decide +kernel
theorem dX1_readParameters_19 : decode cX1_readParameters 19 = .ok (.getfield 21, 3) := by decide +kernel
theorem dX1_readParameters_22 : decode cX1_readParameters 22 = .ok (.invokevirtual 124, 3) := by decide +kernel
theorem dX1_readParameters_25 : decode cX1_readParameters 25 = .ok (.iconst 2, 1) := by decide +kernel
theorem dX1_readParameters_26 : decode cX1_readParameters 26 = .ok (.if_icmp .ne 122, 3) := by decide +kernel
theorem dX1_readParameters_29 : decode cX1_readParameters 29 = .ok (.aload_n 0, 1) := by decide +kernel
theorem dX1_readParameters_30 : decode cX1_readParameters 30 = .ok (.getfield 21, 3) := by decide +kernel
theorem dX1_readParameters_33 : decode cX1_readParameters 33 = .ok (.getfield 82, 3) := by decide +kernel
theorem dX1_readParameters_36 : decode cX1_readParameters 36 = .ok (.aload_n 0, 1) := by decide +kernel
theorem dX1_readParameters_37 : decode cX1_readParameters 37 = .ok (.getfield 21, 3) := by decide +kernel
theorem dX1_readParameters_40 : decode cX1_readParameters 40 = .ok (.getfield 102, 3) := by decide +kernel
theorem dX1_readParameters_43 : decode cX1_readParameters 43 = .ok (.iaload, 1) := by decide +kernel
theorem dX1_readParameters_44 : decode cX1_readParameters 44 = .ok (.istore_n 2, 1) := by decide +kernel
theorem dX1_readParameters_45 : decode cX1_readParameters 45 = .ok (.aload_n 0, 1) := by decide +kernel
theorem dX1_readParameters_46 : decode cX1_readParameters 46 = .ok (.getfield 108, 3) := by decide +kernel
theorem dX1_readParameters_49 : decode cX1_readParameters 49 = .ok (.iload_n 2, 1) := by decide +kernel
theorem dX1_readParameters_50 : decode cX1_readParameters 50 = .ok (.invokevirtual 175, 3) := by decide +kernel
theorem dX1_readParameters_53 : decode cX1_readParameters 53 = .ok (.ifCond .lt 18, 3) := by decide +kernel
theorem dX1_readParameters_56 : decode cX1_readParameters 56 = .ok (.aload_n 0, 1) := by decide +kernel
theorem dX1_readParameters_57 : decode cX1_readParameters 57 = .ok (.getfield 21, 3) := by decide +kernel
theorem dX1_readParameters_60 : decode cX1_readParameters 60 = .ok (.iconst 3, 1) := by decide +kernel
theorem dX1_readParameters_61 : decode cX1_readParameters 61 = .ok (.aload_n 0, 1) := by decide +kernel
theorem dX1_readParameters_62 : decode cX1_readParameters 62 = .ok (.getfield 21, 3) := by decide +kernel
theorem dX1_readParameters_65 : decode cX1_readParameters 65 = .ok (.invokevirtual 130, 3) := by decide +kernel
theorem dX1_readParameters_68 : decode cX1_readParameters 68 = .ok (.invokevirtual 88, 3) := by decide +kernel
theorem dX1_readParameters_71 : decode cX1_readParameters 71 = .ok (.aload_n 0, 1) := by decide +kernel
theorem dX1_readParameters_72 : decode cX1_readParameters 72 = .ok (.getfield 21, 3) := by decide +kernel
theorem dX1_readParameters_75 : decode cX1_readParameters 75 = .ok (.iconst 2, 1) := by decide +kernel
theorem dX1_readParameters_76 : decode cX1_readParameters 76 = .ok (.invokevirtual 105, 3) := by decide +kernel
theorem dX1_readParameters_79 : decode cX1_readParameters 79 = .ok (.aload_n 0, 1) := by decide +kernel
theorem dX1_readParameters_80 : decode cX1_readParameters 80 = .ok (.iconst 1, 1) := by decide +kernel
theorem dX1_readParameters_81 : decode cX1_readParameters 81 = .ok (.iconst 1, 1) := by decide +kernel
theorem dX1_readParameters_82 : decode cX1_readParameters 82 = .ok (.iconst 0, 1) := by decide +kernel
theorem dX1_readParameters_83 : decode cX1_readParameters 83 = .ok (.invokevirtual 78, 3) := by decide +kernel
theorem dX1_readParameters_86 : decode cX1_readParameters 86 = .ok (.istore_n 3, 1) := by decide +kernel
theorem dX1_readParameters_87 : decode cX1_readParameters 87 = .ok (.aload_n 0, 1) := by decide +kernel
theorem dX1_readParameters_88 : decode cX1_readParameters 88 = .ok (.getfield 108, 3) := by decide +kernel
theorem dX1_readParameters_91 : decode cX1_readParameters 91 = .ok (.getfield 178, 3) := by decide +kernel
theorem dX1_readParameters_94 : decode cX1_readParameters 94 = .ok (.aload_n 0, 1) := by decide +kernel
theorem dX1_readParameters_95 : decode cX1_readParameters 95 = .ok (.getfield 108, 3) := by decide +kernel
theorem dX1_readParameters_98 : decode cX1_readParameters 98 = .ok (.iload_n 2, 1) := by decide +kernel
theorem dX1_readParameters_99 : decode cX1_readParameters 99 = .ok (.iconst 0, 1) := by decide +kernel
theorem dX1_readParameters_100 : decode cX1_readParameters 100 = .ok (.iconst 0, 1) := by decide +kernel
theorem dX1_readParameters_101 : decode cX1_readParameters 101 = .ok (.invokevirtual 181, 3) := by decide +kernel
theorem dX1_readParameters_104 : decode cX1_readParameters 104 = .ok (.iload_n 3, 1) := by decide +kernel
theorem dX1_readParameters_105 : decode cX1_readParameters 105 = .ok (.iastore, 1) := by decide +kernel
theorem dX1_readParameters_106 : decode cX1_readParameters 106 = .ok (.aload_n 0, 1) := by decide +kernel
theorem dX1_readParameters_107 : decode cX1_readParameters 107 = .ok (.getfield 108, 3) := by decide +kernel
theorem dX1_readParameters_110 : decode cX1_readParameters 110 = .ok (.getfield 185, 3) := by decide +kernel
theorem dX1_readParameters_113 : decode cX1_readParameters 113 = .ok (.iload_n 1, 1) := by decide +kernel
theorem dX1_readParameters_114 : decode cX1_readParameters 114 = .ok (.aload_n 0, 1) := by decide +kernel
theorem dX1_readParameters_115 : decode cX1_readParameters 115 = .ok (.getfield 156, 3) := by decide +kernel
theorem dX1_readParameters_118 : decode cX1_readParameters 118 = .ok (.iastore, 1) := by decide +kernel
theorem dX1_readParameters_119 : decode cX1_readParameters 119 = .ok (.aload_n 0, 1) := by decide +kernel
theorem dX1_readParameters_120 : decode cX1_readParameters 120 = .ok (.getfield 108, 3) := by decide +kernel
theorem dX1_readParameters_123 : decode cX1_readParameters 123 = .ok (.dup, 1) := by decide +kernel
theorem dX1_readParameters_124 : decode cX1_readParameters 124 = .ok (.getfield 188, 3) := by decide +kernel
theorem dX1_readParameters_127 : decode cX1_readParameters 127 = .ok (.iconst 1, 1) := by decide +kernel
theorem dX1_readParameters_128 : decode cX1_readParameters 128 = .ok (.iadd, 1) := by decide +kernel
theorem dX1_readParameters_129 : decode cX1_readParameters 129 = .ok (.putfield 188, 3) := by decide +kernel
theorem dX1_readParameters_132 : decode cX1_readParameters 132 = .ok (.aload_n 0, 1) := by decide +kernel
theorem dX1_readParameters_133 : decode cX1_readParameters 133 = .ok (.getfield 21, 3) := by decide +kernel
theorem dX1_readParameters_136 : decode cX1_readParameters 136 = .ok (.bipush 44, 2) := by decide +kernel
theorem dX1_readParameters_138 : decode cX1_readParameters 138 = .ok (.invokevirtual 137, 3) := by decide +kernel
theorem dX1_readParameters_141 : decode cX1_readParameters 141 = .ok (.pop, 1) := by decide +kernel
theorem dX1_readParameters_142 : decode cX1_readParameters 142 = .ok (.iinc 1 1, 3) := by decide +kernel
theorem dX1_readParameters_145 : decode cX1_readParameters 145 = .ok (.goto (-133), 3) := by decide +kernel
theorem dX1_readParameters_148 : decode cX1_readParameters 148 = .ok (.aload_n 0, 1) := by decide +kernel
theorem dX1_readParameters_149 : decode cX1_readParameters 149 = .ok (.getfield 21, 3) := by decide +kernel
theorem dX1_readParameters_152 : decode cX1_readParameters 152 = .ok (.bipush 41, 2) := by decide +kernel
theorem dX1_readParameters_154 : decode cX1_readParameters 154 = .ok (.invokevirtual 137, 3) := by decide +kernel
theorem dX1_readParameters_157 : decode cX1_readParameters 157 = .ok (.pop, 1) := by decide +kernel
theorem dX1_readParameters_158 : decode cX1_readParameters 158 = .ok (.return_, 1) := by decide +kernel
theorem dX1_readParts_0 : decode cX1_readParts 0 = .ok (.aload_n 0, 1) := by decide +kernel
theorem dX1_readParts_1 : decode cX1_readParts 1 = .ok (.getfield 21, 3) := by decide +kernel
theorem dX1_readParts_4 : decode cX1_readParts 4 = .ok (.bipush 40, 2) := by decide +kernel
theorem dX1_readParts_6 : decode cX1_readParts 6 = .ok (.invokevirtual 137, 3) := by decide +kernel
theorem dX1_readParts_9 : decode cX1_readParts 9 = .ok (.ifCond .ne 4, 3) := by decide +kernel
theorem dX1_readParts_12 : decode cX1_readParts 12 = .ok (.return_, 1) := by decide +kernel
theorem dX1_readParts_13 : decode cX1_readParts 13 = .ok (.iconst 0, 1) := by decide +kernel
theorem dX1_readParts_14 : decode cX1_readParts 14 = .ok (.istore_n 2, 1) := by decide +kernel
theorem dX1_readParts_15 : decode cX1_readParts 15 = .ok (.iload_n 2, 1) := by decide +kernel
theorem dX1_readParts_16 : decode cX1_readParts 16 = .ok (.bipush 12, 2) := by decide +kernel
theorem dX1_readParts_18 : decode cX1_readParts 18 = .ok (.if_icmp .ge 57, 3) := by decide +kernel
theorem dX1_readParts_21 : decode cX1_readParts 21 = .ok (.aload_n 0, 1) := by decide +kernel
theorem dX1_readParts_22 : decode cX1_readParts 22 = .ok (.getfield 21, 3) := by decide +kernel
theorem dX1_readParts_25 : decode cX1_readParts 25 = .ok (.getfield 53, 3) := by decide +kernel
theorem dX1_readParts_28 : decode cX1_readParts 28 = .ok (.ifCond .ne 47, 3) := by decide +kernel
theorem dX1_readParts_31 : decode cX1_readParts 31 = .ok (.aload_n 0, 1) := by decide +kernel
theorem dX1_readParts_32 : decode cX1_readParts 32 = .ok (.getfield 21, 3) := by decide +kernel
theorem dX1_readParts_35 : decode cX1_readParts 35 = .ok (.invokevirtual 124, 3) := by decide +kernel
theorem dX1_readParts_38 : decode cX1_readParts 38 = .ok (.bipush 41, 2) := by decide +kernel
theorem dX1_readParts_40 : decode cX1_readParts 40 = .ok (.if_icmp .eq 35, 3) := by decide +kernel
theorem dX1_readParts_43 : decode cX1_readParts 43 = .ok (.aload_n 0, 1) := by decide +kernel
theorem dX1_readParts_44 : decode cX1_readParts 44 = .ok (.getfield 25, 3) := by decide +kernel
theorem dX1_readParts_47 : decode cX1_readParts 47 = .ok (.iload_n 1, 1) := by decide +kernel
theorem dX1_readParts_48 : decode cX1_readParts 48 = .ok (.iconst 0, 1) := by decide +kernel
theorem dX1_readParts_49 : decode cX1_readParts 49 = .ok (.aload_n 0, 1) := by decide +kernel
theorem dX1_readParts_50 : decode cX1_readParts 50 = .ok (.iconst 0, 1) := by decide +kernel
theorem dX1_readParts_51 : decode cX1_readParts 51 = .ok (.iconst 0, 1) := by decide +kernel
theorem dX1_readParts_52 : decode cX1_readParts 52 = .ok (.iconst 0, 1) := by decide +kernel
theorem dX1_readParts_53 : decode cX1_readParts 53 = .ok (.invokevirtual 78, 3) := by decide +kernel
theorem dX1_readParts_56 : decode cX1_readParts 56 = .ok (.invokevirtual 133, 3) := by decide +kernel
theorem dX1_readParts_59 : decode cX1_readParts 59 = .ok (.aload_n 0, 1) := by decide +kernel
theorem dX1_readParts_60 : decode cX1_readParts 60 = .ok (.getfield 21, 3) := by decide +kernel
theorem dX1_readParts_63 : decode cX1_readParts 63 = .ok (.bipush 44, 2) := by decide +kernel
theorem dX1_readParts_65 : decode cX1_readParts 65 = .ok (.invokevirtual 137, 3) := by decide +kernel
theorem dX1_readParts_68 : decode cX1_readParts 68 = .ok (.pop, 1) := by decide +kernel
theorem dX1_readParts_69 : decode cX1_readParts 69 = .ok (.iinc 2 1, 3) := by decide +kernel
theorem dX1_readParts_72 : decode cX1_readParts 72 = .ok (.goto (-57), 3) := by decide +kernel
theorem dX1_readParts_75 : decode cX1_readParts 75 = .ok (.aload_n 0, 1) := by decide +kernel
theorem dX1_readParts_76 : decode cX1_readParts 76 = .ok (.getfield 21, 3) := by decide +kernel
theorem dX1_readParts_79 : decode cX1_readParts 79 = .ok (.bipush 41, 2) := by decide +kernel
theorem dX1_readParts_81 : decode cX1_readParts 81 = .ok (.invokevirtual 137, 3) := by decide +kernel
theorem dX1_readParts_84 : decode cX1_readParts 84 = .ok (.pop, 1) := by decide +kernel
theorem dX1_readParts_85 : decode cX1_readParts 85 = .ok (.return_, 1) := by decide +kernel
theorem dX1_readReference_0 : decode cX1_readReference 0 = .ok (.aload_n 0, 1) := by decide +kernel
theorem dX1_readReference_1 : decode cX1_readReference 1 = .ok (.getfield 21, 3) := by decide +kernel
theorem dX1_readReference_4 : decode cX1_readReference 4 = .ok (.iconst 1, 1) := by decide +kernel
theorem dX1_readReference_5 : decode cX1_readReference 5 = .ok (.invokevirtual 105, 3) := by decide +kernel
theorem dX1_readReference_8 : decode cX1_readReference 8 = .ok (.aload_n 0, 1) := by decide +kernel
theorem dX1_readReference_9 : decode cX1_readReference 9 = .ok (.getfield 21, 3) := by decide +kernel
theorem dX1_readReference_12 : decode cX1_readReference 12 = .ok (.getfield 102, 3) := by decide +kernel
theorem dX1_readReference_15 : decode cX1_readReference 15 = .ok (.istore_n 3, 1) := by decide +kernel
theorem dX1_readReference_16 : decode cX1_readReference 16 = .ok (.aload_n 0, 1) := by decide +kernel
theorem dX1_readReference_17 : decode cX1_readReference 17 = .ok (.getfield 21, 3) := by decide +kernel
theorem dX1_readReference_20 : decode cX1_readReference 20 = .ok (.iconst 3, 1) := by decide +kernel
theorem dX1_readReference_21 : decode cX1_readReference 21 = .ok (.invokevirtual 137, 3) := by decide +kernel
theorem dX1_readReference_24 : decode cX1_readReference 24 = .ok (.istore 4, 2) := by decide +kernel
theorem dX1_readReference_26 : decode cX1_readReference 26 = .ok (.aload_n 0, 1) := by decide +kernel
theorem dX1_readReference_27 : decode cX1_readReference 27 = .ok (.getfield 21, 3) := by decide +kernel
theorem dX1_readReference_30 : decode cX1_readReference 30 = .ok (.bipush 9, 2) := by decide +kernel
theorem dX1_readReference_32 : decode cX1_readReference 32 = .ok (.invokevirtual 137, 3) := by decide +kernel
theorem dX1_readReference_35 : decode cX1_readReference 35 = .ok (.istore 5, 2) := by decide +kernel
theorem dX1_readReference_37 : decode cX1_readReference 37 = .ok (.aload_n 0, 1) := by decide +kernel
theorem dX1_readReference_38 : decode cX1_readReference 38 = .ok (.iconst 0, 1) := by decide +kernel
theorem dX1_readReference_39 : decode cX1_readReference 39 = .ok (.iload_n 1, 1) := by decide +kernel
theorem dX1_readReference_40 : decode cX1_readReference 40 = .ok (.iload_n 2, 1) := by decide +kernel
theorem dX1_readReference_41 : decode cX1_readReference 41 = .ok (.iconst 1, 1) := by decide +kernel
theorem dX1_readReference_42 : decode cX1_readReference 42 = .ok (.iadd, 1) := by decide +kernel
theorem dX1_readReference_43 : decode cX1_readReference 43 = .ok (.invokevirtual 78, 3) := by decide +kernel
theorem dX1_readReference_46 : decode cX1_readReference 46 = .ok (.istore 6, 2) := by decide +kernel
theorem dX1_readReference_48 : decode cX1_readReference 48 = .ok (.iload 4, 2) := by decide +kernel
theorem dX1_readReference_50 : decode cX1_readReference 50 = .ok (.ifCond .eq 19, 3) := by decide +kernel
theorem dX1_readReference_53 : decode cX1_readReference 53 = .ok (.aload_n 0, 1) := by decide +kernel
theorem dX1_readReference_54 : decode cX1_readReference 54 = .ok (.getfield 21, 3) := by decide +kernel
theorem dX1_readReference_57 : decode cX1_readReference 57 = .ok (.getfield 53, 3) := by decide +kernel
theorem dX1_readReference_60 : decode cX1_readReference 60 = .ok (.ifCond .ne 9, 3) := by decide +kernel
theorem dX1_readReference_63 : decode cX1_readReference 63 = .ok (.aload_n 0, 1) := by decide +kernel
theorem dX1_readReference_64 : decode cX1_readReference 64 = .ok (.iload_n 3, 1) := by decide +kernel
theorem dX1_readReference_65 : decode cX1_readReference 65 = .ok (.iload_n 1, 1) := by decide +kernel
theorem dX1_readReference_66 : decode cX1_readReference 66 = .ok (.invokevirtual 200, 3) := by decide +kernel
theorem dX1_readReference_69 : decode cX1_readReference 69 = .ok (.aload_n 0, 1) := by decide +kernel
theorem dX1_readReference_70 : decode cX1_readReference 70 = .ok (.getfield 25, 3) := by decide +kernel
theorem dX1_readReference_73 : decode cX1_readReference 73 = .ok (.iload 6, 2) := by decide +kernel
theorem dX1_readReference_75 : decode cX1_readReference 75 = .ok (.iload 5, 2) := by decide +kernel
theorem dX1_readReference_77 : decode cX1_readReference 77 = .ok (.invokevirtual 203, 3) := by decide +kernel
theorem dX1_readReference_80 : decode cX1_readReference 80 = .ok (.ireturn, 1) := by decide +kernel
theorem dX1_readStruct_0 : decode cX1_readStruct 0 = .ok (.aload_n 0, 1) := by decide +kernel
theorem dX1_readStruct_1 : decode cX1_readStruct 1 = .ok (.getfield 25, 3) := by decide +kernel
theorem dX1_readStruct_4 : decode cX1_readStruct 4 = .ok (.iload_n 1, 1) := by decide +kernel
theorem dX1_readStruct_5 : decode cX1_readStruct 5 = .ok (.iconst 0, 1) := by decide +kernel
theorem dX1_readStruct_6 : decode cX1_readStruct 6 = .ok (.invokevirtual 121, 3) := by decide +kernel
theorem dX1_readStruct_9 : decode cX1_readStruct 9 = .ok (.istore_n 2, 1) := by decide +kernel
theorem dX1_readStruct_10 : decode cX1_readStruct 10 = .ok (.aload_n 0, 1) := by decide +kernel
theorem dX1_readStruct_11 : decode cX1_readStruct 11 = .ok (.getfield 21, 3) := by decide +kernel
theorem dX1_readStruct_14 : decode cX1_readStruct 14 = .ok (.iconst 1, 1) := by decide +kernel
theorem dX1_readStruct_15 : decode cX1_readStruct 15 = .ok (.invokevirtual 105, 3) := by decide +kernel
theorem dX1_readStruct_18 : decode cX1_readStruct 18 = .ok (.iconst 0, 1) := by decide +kernel
theorem dX1_readStruct_19 : decode cX1_readStruct 19 = .ok (.istore_n 3, 1) := by decide +kernel
theorem dX1_readStruct_20 : decode cX1_readStruct 20 = .ok (.iload_n 3, 1) := by decide +kernel
theorem dX1_readStruct_21 : decode cX1_readStruct 21 = .ok (.bipush 12, 2) := by decide +kernel
theorem dX1_readStruct_23 : decode cX1_readStruct 23 = .ok (.if_icmp .ge 100, 3) := by decide +kernel
theorem dX1_readStruct_26 : decode cX1_readStruct 26 = .ok (.aload_n 0, 1) := by decide +kernel
theorem dX1_readStruct_27 : decode cX1_readStruct 27 = .ok (.getfield 21, 3) := by decide +kernel
theorem dX1_readStruct_30 : decode cX1_readStruct 30 = .ok (.invokevirtual 124, 3) := by decide +kernel
theorem dX1_readStruct_33 : decode cX1_readStruct 33 = .ok (.iconst 2, 1) := by decide +kernel
theorem dX1_readStruct_34 : decode cX1_readStruct 34 = .ok (.if_icmp .ne 89, 3) := by decide +kernel
theorem dX1_readStruct_37 : decode cX1_readStruct 37 = .ok (.aload_n 0, 1) := by decide +kernel
theorem dX1_readStruct_38 : decode cX1_readStruct 38 = .ok (.getfield 21, 3) := by decide +kernel
theorem dX1_readStruct_41 : decode cX1_readStruct 41 = .ok (.getfield 82, 3) := by decide +kernel
theorem dX1_readStruct_44 : decode cX1_readStruct 44 = .ok (.aload_n 0, 1) := by decide +kernel
theorem dX1_readStruct_45 : decode cX1_readStruct 45 = .ok (.getfield 21, 3) := by decide +kernel
theorem dX1_readStruct_48 : decode cX1_readStruct 48 = .ok (.getfield 102, 3) := by decide +kernel
theorem dX1_readStruct_51 : decode cX1_readStruct 51 = .ok (.iaload, 1) := by decide +kernel
theorem dX1_readStruct_52 : decode cX1_readStruct 52 = .ok (.istore 4, 2) := by decide +kernel
theorem dX1_readStruct_54 : decode cX1_readStruct 54 = .ok (.aload_n 0, 1) := by decide +kernel
theorem dX1_readStruct_55 : decode cX1_readStruct 55 = .ok (.getfield 25, 3) := by decide +kernel
theorem dX1_readStruct_58 : decode cX1_readStruct 58 = .ok (.iload_n 2, 1) := by decide +kernel
theorem dX1_readStruct_59 : decode cX1_readStruct 59 = .ok (.iload 4, 2) := by decide +kernel
theorem dX1_readStruct_61 : decode cX1_readStruct 61 = .ok (.invokevirtual 127, 3) := by decide +kernel
theorem dX1_readStruct_64 : decode cX1_readStruct 64 = .ok (.ifCond .lt 18, 3) := by decide +kernel
theorem dX1_readStruct_67 : decode cX1_readStruct 67 = .ok (.aload_n 0, 1) := by decide +kernel
theorem dX1_readStruct_68 : decode cX1_readStruct 68 = .ok (.getfield 21, 3) := by decide +kernel
theorem dX1_readStruct_71 : decode cX1_readStruct 71 = .ok (.iconst 3, 1) := by decide +kernel
theorem dX1_readStruct_72 : decode cX1_readStruct 72 = .ok (.aload_n 0, 1) := by decide +kernel
theorem dX1_readStruct_73 : decode cX1_readStruct 73 = .ok (.getfield 21, 3) := by decide +kernel
theorem dX1_readStruct_76 : decode cX1_readStruct 76 = .ok (.invokevirtual 130, 3) := by decide +kernel
theorem dX1_readStruct_79 : decode cX1_readStruct 79 = .ok (.invokevirtual 88, 3) := by decide +kernel
theorem dX1_readStruct_82 : decode cX1_readStruct 82 = .ok (.aload_n 0, 1) := by decide +kernel
theorem dX1_readStruct_83 : decode cX1_readStruct 83 = .ok (.getfield 21, 3) := by decide +kernel
theorem dX1_readStruct_86 : decode cX1_readStruct 86 = .ok (.iconst 2, 1) := by decide +kernel
theorem dX1_readStruct_87 : decode cX1_readStruct 87 = .ok (.invokevirtual 105, 3) := by decide +kernel
theorem dX1_readStruct_90 : decode cX1_readStruct 90 = .ok (.aload_n 0, 1) := by decide +kernel
theorem dX1_readStruct_91 : decode cX1_readStruct 91 = .ok (.getfield 25, 3) := by decide +kernel
theorem dX1_readStruct_94 : decode cX1_readStruct 94 = .ok (.iload_n 2, 1) := by decide +kernel
theorem dX1_readStruct_95 : decode cX1_readStruct 95 = .ok (.iload 4, 2) := by decide +kernel
theorem dX1_readStruct_97 : decode cX1_readStruct 97 = .ok (.aload_n 0, 1) := by decide +kernel
theorem dX1_readStruct_98 : decode cX1_readStruct 98 = .ok (.iconst 0, 1) := by decide +kernel
theorem dX1_readStruct_99 : decode cX1_readStruct 99 = .ok (.iconst 0, 1) := by decide +kernel
theorem dX1_readStruct_100 : decode cX1_readStruct 100 = .ok (.iconst 0, 1) := by decide +kernel
theorem dX1_readStruct_101 : decode cX1_readStruct 101 = .ok (.invokevirtual 78, 3) := by decide +kernel
theorem dX1_readStruct_104 : decode cX1_readStruct 104 = .ok (.invokevirtual 133, 3) := by decide +kernel
theorem dX1_readStruct_107 : decode cX1_readStruct 107 = .ok (.aload_n 0, 1) := by decide +kernel
theorem dX1_readStruct_108 : decode cX1_readStruct 108 = .ok (.getfield 21, 3) := by decide +kernel
theorem dX1_readStruct_111 : decode cX1_readStruct 111 = .ok (.bipush 44, 2) := by decide +kernel
theorem dX1_readStruct_113 : decode cX1_readStruct 113 = .ok (.invokevirtual 137, 3) := by decide +kernel
theorem dX1_readStruct_116 : decode cX1_readStruct 116 = .ok (.pop, 1) := by decide +kernel
theorem dX1_readStruct_117 : decode cX1_readStruct 117 = .ok (.iinc 3 1, 3) := by decide +kernel
theorem dX1_readStruct_120 : decode cX1_readStruct 120 = .ok (.goto (-100), 3) := by decide +kernel
theorem dX1_readStruct_123 : decode cX1_readStruct 123 = .ok (.return_, 1) := by decide +kernel
theorem dX1_readType_0 : decode cX1_readType 0 = .ok (.aload_n 0, 1) := by decide +kernel
theorem dX1_readType_1 : decode cX1_readType 1 = .ok (.getfield 21, 3) := by decide +kernel
theorem dX1_readType_4 : decode cX1_readType 4 = .ok (.invokevirtual 124, 3) := by decide +kernel
theorem dX1_readType_7 : decode cX1_readType 7 = .ok (.istore 4, 2) := by decide +kernel
theorem dX1_readType_9 : decode cX1_readType 9 = .ok (.aload_n 0, 1) := by decide +kernel
theorem dX1_readType_10 : decode cX1_readType 10 = .ok (.getfield 21, 3) := by decide +kernel
theorem dX1_readType_13 : decode cX1_readType 13 = .ok (.invokevirtual 130, 3) := by decide +kernel
theorem dX1_readType_16 : decode cX1_readType 16 = .ok (.istore 5, 2) := by decide +kernel
theorem dX1_readType_18 : decode cX1_readType 18 = .ok (.aload_n 0, 1) := by decide +kernel
theorem dX1_readType_19 : decode cX1_readType 19 = .ok (.getfield 21, 3) := by decide +kernel
theorem dX1_readType_22 : decode cX1_readType 22 = .ok (.getfield 82, 3) := by decide +kernel
theorem dX1_readType_25 : decode cX1_readType 25 = .ok (.aload_n 0, 1) := by decide +kernel
theorem dX1_readType_26 : decode cX1_readType 26 = .ok (.getfield 21, 3) := by decide +kernel
theorem dX1_readType_29 : decode cX1_readType 29 = .ok (.getfield 102, 3) := by decide +kernel
theorem dX1_readType_32 : decode cX1_readType 32 = .ok (.iaload, 1) := by decide +kernel
theorem dX1_readType_33 : decode cX1_readType 33 = .ok (.istore 6, 2) := by decide +kernel
theorem dX1_readType_35 : decode cX1_readType 35 = .ok (.aload_n 0, 1) := by decide +kernel
theorem dX1_readType_36 : decode cX1_readType 36 = .ok (.iconst (-1), 1) := by decide +kernel
theorem dX1_readType_37 : decode cX1_readType 37 = .ok (.putfield 156, 3) := by decide +kernel
theorem dX1_readType_40 : decode cX1_readType 40 = .ok (.iload_n 3, 1) := by decide +kernel
theorem dX1_readType_41 : decode cX1_readType 41 = .ok (.bipush 16, 2) := by decide +kernel
theorem dX1_readType_43 : decode cX1_readType 43 = .ok (.if_icmp .le 5, 3) := by decide +kernel
theorem dX1_readType_46 : decode cX1_readType 46 = .ok (.iconst 0, 1) := by decide +kernel
theorem dX1_readType_47 : decode cX1_readType 47 = .ok (.ireturn, 1) := by decide +kernel
theorem dX1_readType_48 : decode cX1_readType 48 = .ok (.iload 4, 2) := by decide +kernel
theorem dX1_readType_50 : decode cX1_readType 50 = .ok (.bipush 38, 2) := by decide +kernel
theorem dX1_readType_52 : decode cX1_readType 52 = .ok (.if_icmp .ne 26, 3) := by decide +kernel
theorem dX1_readType_55 : decode cX1_readType 55 = .ok (.iload_n 1, 1) := by decide +kernel
theorem dX1_readType_56 : decode cX1_readType 56 = .ok (.ifCond .ne 15, 3) := by decide +kernel
theorem dX1_readType_59 : decode cX1_readType 59 = .ok (.aload_n 0, 1) := by decide +kernel
theorem dX1_readType_60 : decode cX1_readType 60 = .ok (.getfield 21, 3) := by decide +kernel
theorem dX1_readType_63 : decode cX1_readType 63 = .ok (.iconst 4, 1) := by decide +kernel
theorem dX1_readType_64 : decode cX1_readType 64 = .ok (.iload 5, 2) := by decide +kernel
theorem dX1_readType_66 : decode cX1_readType 66 = .ok (.invokevirtual 88, 3) := by decide +kernel
theorem dX1_readType_69 : decode cX1_readType 69 = .ok (.iconst 0, 1) := by decide +kernel
theorem dX1_readType_70 : decode cX1_readType 70 = .ok (.ireturn, 1) := by decide +kernel
theorem dX1_readType_71 : decode cX1_readType 71 = .ok (.aload_n 0, 1) := by decide +kernel
theorem dX1_readType_72 : decode cX1_readType 72 = .ok (.iload_n 2, 1) := by decide +kernel
theorem dX1_readType_73 : decode cX1_readType 73 = .ok (.iload_n 3, 1) := by decide +kernel
theorem dX1_readType_74 : decode cX1_readType 74 = .ok (.invokevirtual 191, 3) := by decide +kernel
theorem dX1_readType_77 : decode cX1_readType 77 = .ok (.ireturn, 1) := by decide +kernel
theorem dX1_readType_78 : decode cX1_readType 78 = .ok (.aload_n 0, 1) := by decide +kernel
theorem dX1_readType_79 : decode cX1_readType 79 = .ok (.getfield 21, 3) := by decide +kernel
theorem dX1_readType_82 : decode cX1_readType 82 = .ok (.iconst 1, 1) := by decide +kernel
theorem dX1_readType_83 : decode cX1_readType 83 = .ok (.invokevirtual 105, 3) := by decide +kernel
theorem dX1_readType_86 : decode cX1_readType 86 = .ok (.iload 4, 2) := by decide +kernel
theorem dX1_readType_88 : decode cX1_readType 88 = .ok (.tableswitch 59 19 23 #[42, 59, 40, 36, 38], 36) := by decide +kernel
theorem dX1_readType_124 : decode cX1_readType 124 = .ok (.iconst 1, 1) := by decide +kernel
theorem dX1_readType_125 : decode cX1_readType 125 = .ok (.ireturn, 1) := by decide +kernel
theorem dX1_readType_126 : decode cX1_readType 126 = .ok (.iconst 2, 1) := by decide +kernel
theorem dX1_readType_127 : decode cX1_readType 127 = .ok (.ireturn, 1) := by decide +kernel
theorem dX1_readType_128 : decode cX1_readType 128 = .ok (.iconst 3, 1) := by decide +kernel
theorem dX1_readType_129 : decode cX1_readType 129 = .ok (.ireturn, 1) := by decide +kernel
theorem dX1_readType_130 : decode cX1_readType 130 = .ok (.aload_n 0, 1) := by decide +kernel
theorem dX1_readType_131 : decode cX1_readType 131 = .ok (.getfield 25, 3) := by decide +kernel
theorem dX1_readType_134 : decode cX1_readType 134 = .ok (.aload_n 0, 1) := by decide +kernel
theorem dX1_readType_135 : decode cX1_readType 135 = .ok (.iconst 0, 1) := by decide +kernel
theorem dX1_readType_136 : decode cX1_readType 136 = .ok (.iload_n 2, 1) := by decide +kernel
theorem dX1_readType_137 : decode cX1_readType 137 = .ok (.iload_n 3, 1) := by decide +kernel
theorem dX1_readType_138 : decode cX1_readType 138 = .ok (.iconst 1, 1) := by decide +kernel
theorem dX1_readType_139 : decode cX1_readType 139 = .ok (.iadd, 1) := by decide +kernel
theorem dX1_readType_140 : decode cX1_readType 140 = .ok (.invokevirtual 78, 3) := by decide +kernel
theorem dX1_readType_143 : decode cX1_readType 143 = .ok (.invokevirtual 194, 3) := by decide +kernel
theorem dX1_readType_146 : decode cX1_readType 146 = .ok (.ireturn, 1) := by decide +kernel
theorem dX1_readType_147 : decode cX1_readType 147 = .ok (.aload_n 0, 1) := by decide +kernel
theorem dX1_readType_148 : decode cX1_readType 148 = .ok (.iload 6, 2) := by decide +kernel
theorem dX1_readType_150 : decode cX1_readType 150 = .ok (.iload 5, 2) := by decide +kernel
theorem dX1_readType_152 : decode cX1_readType 152 = .ok (.invokevirtual 197, 3) := by decide +kernel
theorem dX1_readType_155 : decode cX1_readType 155 = .ok (.ireturn, 1) := by decide +kernel
theorem dX1_shapeOf_0 : decode cX1_shapeOf 0 = .ok (.aload_n 0, 1) := by decide +kernel
theorem dX1_shapeOf_1 : decode cX1_shapeOf 1 = .ok (.getfield 17, 3) := by decide +kernel
theorem dX1_shapeOf_4 : decode cX1_shapeOf 4 = .ok (.iload_n 1, 1) := by decide +kernel
theorem dX1_shapeOf_5 : decode cX1_shapeOf 5 = .ok (.iaload, 1) := by decide +kernel
theorem dX1_shapeOf_6 : decode cX1_shapeOf 6 = .ok (.iconst 1, 1) := by decide +kernel
theorem dX1_shapeOf_7 : decode cX1_shapeOf 7 = .ok (.isub, 1) := by decide +kernel
theorem dX1_shapeOf_8 : decode cX1_shapeOf 8 = .ok (.istore_n 3, 1) := by decide +kernel
theorem dX1_shapeOf_9 : decode cX1_shapeOf 9 = .ok (.iload_n 3, 1) := by decide +kernel
theorem dX1_shapeOf_10 : decode cX1_shapeOf 10 = .ok (.ifCond .lt 22, 3) := by decide +kernel
theorem dX1_shapeOf_13 : decode cX1_shapeOf 13 = .ok (.aload_n 0, 1) := by decide +kernel
theorem dX1_shapeOf_14 : decode cX1_shapeOf 14 = .ok (.getfield 25, 3) := by decide +kernel
theorem dX1_shapeOf_17 : decode cX1_shapeOf 17 = .ok (.getfield 75, 3) := by decide +kernel
theorem dX1_shapeOf_20 : decode cX1_shapeOf 20 = .ok (.iconst 4, 1) := by decide +kernel
theorem dX1_shapeOf_21 : decode cX1_shapeOf 21 = .ok (.iload_n 3, 1) := by decide +kernel
theorem dX1_shapeOf_22 : decode cX1_shapeOf 22 = .ok (.iadd, 1) := by decide +kernel
theorem dX1_shapeOf_23 : decode cX1_shapeOf 23 = .ok (.iaload, 1) := by decide +kernel
theorem dX1_shapeOf_24 : decode cX1_shapeOf 24 = .ok (.iload_n 2, 1) := by decide +kernel
theorem dX1_shapeOf_25 : decode cX1_shapeOf 25 = .ok (.if_icmp .ne 7, 3) := by decide +kernel
theorem dX1_shapeOf_28 : decode cX1_shapeOf 28 = .ok (.iload_n 3, 1) := by decide +kernel
theorem dX1_shapeOf_29 : decode cX1_shapeOf 29 = .ok (.goto 4, 3) := by decide +kernel
theorem dX1_shapeOf_32 : decode cX1_shapeOf 32 = .ok (.iconst (-1), 1) := by decide +kernel
theorem dX1_shapeOf_33 : decode cX1_shapeOf 33 = .ok (.ireturn, 1) := by decide +kernel
