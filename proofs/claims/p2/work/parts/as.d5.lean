theorem dX5_addressOf_0 : decode cX5_addressOf 0 = .ok (.aload_n 0, 1) := by decide +kernel
theorem dX5_addressOf_1 : decode cX5_addressOf 1 = .ok (.getfield 27, 3) := by decide +kernel
theorem dX5_addressOf_4 : decode cX5_addressOf 4 = .ok (.getfield 108, 3) := by decide +kernel
theorem dX5_addressOf_7 : decode cX5_addressOf 7 = .ok (.iload_n 1, 1) := by decide +kernel
theorem dX5_addressOf_8 : decode cX5_addressOf 8 = .ok (.iaload, 1) := by decide +kernel
theorem dX5_addressOf_9 : decode cX5_addressOf 9 = .ok (.istore_n 2, 1) := by decide +kernel
theorem dX5_addressOf_10 : decode cX5_addressOf 10 = .ok (.aload_n 0, 1) := by decide +kernel
theorem dX5_addressOf_11 : decode cX5_addressOf 11 = .ok (.getfield 70, 3) := by decide +kernel
theorem dX5_addressOf_14 : decode cX5_addressOf 14 = .ok (.aload_n 0, 1) := by decide +kernel
theorem dX5_addressOf_15 : decode cX5_addressOf 15 = .ok (.getfield 111, 3) := by decide +kernel
theorem dX5_addressOf_18 : decode cX5_addressOf 18 = .ok (.getfield 115, 3) := by decide +kernel
theorem dX5_addressOf_21 : decode cX5_addressOf 21 = .ok (.aload_n 0, 1) := by decide +kernel
theorem dX5_addressOf_22 : decode cX5_addressOf 22 = .ok (.getfield 27, 3) := by decide +kernel
theorem dX5_addressOf_25 : decode cX5_addressOf 25 = .ok (.getfield 118, 3) := by decide +kernel
theorem dX5_addressOf_28 : decode cX5_addressOf 28 = .ok (.iload_n 1, 1) := by decide +kernel
theorem dX5_addressOf_29 : decode cX5_addressOf 29 = .ok (.iaload, 1) := by decide +kernel
theorem dX5_addressOf_30 : decode cX5_addressOf 30 = .ok (.iaload, 1) := by decide +kernel
theorem dX5_addressOf_31 : decode cX5_addressOf 31 = .ok (.iadd, 1) := by decide +kernel
theorem dX5_addressOf_32 : decode cX5_addressOf 32 = .ok (.iload_n 2, 1) := by decide +kernel
theorem dX5_addressOf_33 : decode cX5_addressOf 33 = .ok (.iconst 4, 1) := by decide +kernel
theorem dX5_addressOf_34 : decode cX5_addressOf 34 = .ok (.ishr, 1) := by decide +kernel
theorem dX5_addressOf_35 : decode cX5_addressOf 35 = .ok (.bipush 15, 2) := by decide +kernel
theorem dX5_addressOf_37 : decode cX5_addressOf 37 = .ok (.iand, 1) := by decide +kernel
theorem dX5_addressOf_38 : decode cX5_addressOf 38 = .ok (.iadd, 1) := by decide +kernel
theorem dX5_addressOf_39 : decode cX5_addressOf 39 = .ok (.istore_n 3, 1) := by decide +kernel
theorem dX5_addressOf_40 : decode cX5_addressOf 40 = .ok (.iload_n 2, 1) := by decide +kernel
theorem dX5_addressOf_41 : decode cX5_addressOf 41 = .ok (.bipush 15, 2) := by decide +kernel
theorem dX5_addressOf_43 : decode cX5_addressOf 43 = .ok (.iand, 1) := by decide +kernel
theorem dX5_addressOf_44 : decode cX5_addressOf 44 = .ok (.istore 4, 2) := by decide +kernel
theorem dX5_addressOf_46 : decode cX5_addressOf 46 = .ok (.iconst 1, 1) := by decide +kernel
theorem dX5_addressOf_47 : decode cX5_addressOf 47 = .ok (.istore 5, 2) := by decide +kernel
theorem dX5_addressOf_49 : decode cX5_addressOf 49 = .ok (.iload 5, 2) := by decide +kernel
theorem dX5_addressOf_51 : decode cX5_addressOf 51 = .ok (.iload 4, 2) := by decide +kernel
theorem dX5_addressOf_53 : decode cX5_addressOf 53 = .ok (.if_icmp .gt 32, 3) := by decide +kernel
theorem dX5_addressOf_56 : decode cX5_addressOf 56 = .ok (.aload_n 0, 1) := by decide +kernel
theorem dX5_addressOf_57 : decode cX5_addressOf 57 = .ok (.getfield 39, 3) := by decide +kernel
theorem dX5_addressOf_60 : decode cX5_addressOf 60 = .ok (.getfield 98, 3) := by decide +kernel
theorem dX5_addressOf_63 : decode cX5_addressOf 63 = .ok (.iload_n 3, 1) := by decide +kernel
theorem dX5_addressOf_64 : decode cX5_addressOf 64 = .ok (.laload, 1) := by decide +kernel
theorem dX5_addressOf_65 : decode cX5_addressOf 65 = .ok (.l2i, 1) := by decide +kernel
theorem dX5_addressOf_66 : decode cX5_addressOf 66 = .ok (.iload_n 2, 1) := by decide +kernel
theorem dX5_addressOf_67 : decode cX5_addressOf 67 = .ok (.iconst 4, 1) := by decide +kernel
theorem dX5_addressOf_68 : decode cX5_addressOf 68 = .ok (.iconst 4, 1) := by decide +kernel
theorem dX5_addressOf_69 : decode cX5_addressOf 69 = .ok (.iload 5, 2) := by decide +kernel
theorem dX5_addressOf_71 : decode cX5_addressOf 71 = .ok (.imul, 1) := by decide +kernel
theorem dX5_addressOf_72 : decode cX5_addressOf 72 = .ok (.iadd, 1) := by decide +kernel
theorem dX5_addressOf_73 : decode cX5_addressOf 73 = .ok (.ishr, 1) := by decide +kernel
theorem dX5_addressOf_74 : decode cX5_addressOf 74 = .ok (.bipush 15, 2) := by decide +kernel
theorem dX5_addressOf_76 : decode cX5_addressOf 76 = .ok (.iand, 1) := by decide +kernel
theorem dX5_addressOf_77 : decode cX5_addressOf 77 = .ok (.iadd, 1) := by decide +kernel
theorem dX5_addressOf_78 : decode cX5_addressOf 78 = .ok (.istore_n 3, 1) := by decide +kernel
theorem dX5_addressOf_79 : decode cX5_addressOf 79 = .ok (.iinc 5 1, 3) := by decide +kernel
theorem dX5_addressOf_82 : decode cX5_addressOf 82 = .ok (.goto (-33), 3) := by decide +kernel
theorem dX5_addressOf_85 : decode cX5_addressOf 85 = .ok (.iload_n 3, 1) := by decide +kernel
theorem dX5_addressOf_86 : decode cX5_addressOf 86 = .ok (.ireturn, 1) := by decide +kernel
theorem dX5_assign_0 : decode cX5_assign 0 = .ok (.aload_n 0, 1) := by decide +kernel
theorem dX5_assign_1 : decode cX5_assign 1 = .ok (.getfield 27, 3) := by decide +kernel
theorem dX5_assign_4 : decode cX5_assign 4 = .ok (.getfield 148, 3) := by decide +kernel
theorem dX5_assign_7 : decode cX5_assign 7 = .ok (.iload_n 1, 1) := by decide +kernel
theorem dX5_assign_8 : decode cX5_assign 8 = .ok (.iaload, 1) := by decide +kernel
theorem dX5_assign_9 : decode cX5_assign 9 = .ok (.istore_n 2, 1) := by decide +kernel
theorem dX5_assign_10 : decode cX5_assign 10 = .ok (.aload_n 0, 1) := by decide +kernel
theorem dX5_assign_11 : decode cX5_assign 11 = .ok (.getfield 31, 3) := by decide +kernel
theorem dX5_assign_14 : decode cX5_assign 14 = .ok (.getfield 143, 3) := by decide +kernel
theorem dX5_assign_17 : decode cX5_assign 17 = .ok (.iload_n 2, 1) := by decide +kernel
theorem dX5_assign_18 : decode cX5_assign 18 = .ok (.iaload, 1) := by decide +kernel
theorem dX5_assign_19 : decode cX5_assign 19 = .ok (.istore_n 3, 1) := by decide +kernel
theorem dX5_assign_20 : decode cX5_assign 20 = .ok (.aload_n 0, 1) := by decide +kernel
theorem dX5_assign_21 : decode cX5_assign 21 = .ok (.iload_n 1, 1) := by decide +kernel
theorem dX5_assign_22 : decode cX5_assign 22 = .ok (.invokevirtual 139, 3) := by decide +kernel
theorem dX5_assign_25 : decode cX5_assign 25 = .ok (.istore 4, 2) := by decide +kernel
theorem dX5_assign_27 : decode cX5_assign 27 = .ok (.ldc_w 270, 3) := by decide +kernel
theorem dX5_assign_30 : decode cX5_assign 30 = .ok (.istore 5, 2) := by decide +kernel
theorem dX5_assign_32 : decode cX5_assign 32 = .ok (.aload_n 0, 1) := by decide +kernel
theorem dX5_assign_33 : decode cX5_assign 33 = .ok (.getfield 27, 3) := by decide +kernel
theorem dX5_assign_36 : decode cX5_assign 36 = .ok (.iload_n 1, 1) := by decide +kernel
theorem dX5_assign_37 : decode cX5_assign 37 = .ok (.invokevirtual 181, 3) := by decide +kernel
theorem dX5_assign_40 : decode cX5_assign 40 = .ok (.ifCond .ne 69, 3) := by decide +kernel
theorem dX5_assign_43 : decode cX5_assign 43 = .ok (.aload_n 0, 1) := by decide +kernel
theorem dX5_assign_44 : decode cX5_assign 44 = .ok (.getfield 175, 3) := by decide +kernel
theorem dX5_assign_47 : decode cX5_assign 47 = .ok (.aload_n 0, 1) := by decide +kernel
theorem dX5_assign_48 : decode cX5_assign 48 = .ok (.getfield 27, 3) := by decide +kernel
theorem dX5_assign_51 : decode cX5_assign 51 = .ok (.getfield 118, 3) := by decide +kernel
theorem dX5_assign_54 : decode cX5_assign 54 = .ok (.iload_n 1, 1) := by decide +kernel
theorem dX5_assign_55 : decode cX5_assign 55 = .ok (.iaload, 1) := by decide +kernel
theorem dX5_assign_56 : decode cX5_assign 56 = .ok (.iadd, 1) := by decide +kernel
theorem dX5_assign_57 : decode cX5_assign 57 = .ok (.istore 6, 2) := by decide +kernel
theorem dX5_assign_59 : decode cX5_assign 59 = .ok (.aload_n 0, 1) := by decide +kernel
theorem dX5_assign_60 : decode cX5_assign 60 = .ok (.getfield 27, 3) := by decide +kernel
theorem dX5_assign_63 : decode cX5_assign 63 = .ok (.getfield 178, 3) := by decide +kernel
theorem dX5_assign_66 : decode cX5_assign 66 = .ok (.iload_n 1, 1) := by decide +kernel
theorem dX5_assign_67 : decode cX5_assign 67 = .ok (.iaload, 1) := by decide +kernel
theorem dX5_assign_68 : decode cX5_assign 68 = .ok (.istore 7, 2) := by decide +kernel
theorem dX5_assign_70 : decode cX5_assign 70 = .ok (.aload_n 0, 1) := by decide +kernel
theorem dX5_assign_71 : decode cX5_assign 71 = .ok (.getfield 24, 3) := by decide +kernel
theorem dX5_assign_74 : decode cX5_assign 74 = .ok (.iload 6, 2) := by decide +kernel
theorem dX5_assign_76 : decode cX5_assign 76 = .ok (.iaload, 1) := by decide +kernel
theorem dX5_assign_77 : decode cX5_assign 77 = .ok (.iload 7, 2) := by decide +kernel
theorem dX5_assign_79 : decode cX5_assign 79 = .ok (.iand, 1) := by decide +kernel
theorem dX5_assign_80 : decode cX5_assign 80 = .ok (.aload_n 0, 1) := by decide +kernel
theorem dX5_assign_81 : decode cX5_assign 81 = .ok (.getfield 27, 3) := by decide +kernel
theorem dX5_assign_84 : decode cX5_assign 84 = .ok (.getfield 108, 3) := by decide +kernel
theorem dX5_assign_87 : decode cX5_assign 87 = .ok (.iload_n 1, 1) := by decide +kernel
theorem dX5_assign_88 : decode cX5_assign 88 = .ok (.iaload, 1) := by decide +kernel
theorem dX5_assign_89 : decode cX5_assign 89 = .ok (.iconst 4, 1) := by decide +kernel
theorem dX5_assign_90 : decode cX5_assign 90 = .ok (.ishr, 1) := by decide +kernel
theorem dX5_assign_91 : decode cX5_assign 91 = .ok (.bipush 15, 2) := by decide +kernel
theorem dX5_assign_93 : decode cX5_assign 93 = .ok (.iand, 1) := by decide +kernel
theorem dX5_assign_94 : decode cX5_assign 94 = .ok (.ishr, 1) := by decide +kernel
theorem dX5_assign_95 : decode cX5_assign 95 = .ok (.istore 5, 2) := by decide +kernel
theorem dX5_assign_97 : decode cX5_assign 97 = .ok (.aload_n 0, 1) := by decide +kernel
theorem dX5_assign_98 : decode cX5_assign 98 = .ok (.getfield 24, 3) := by decide +kernel
theorem dX5_assign_101 : decode cX5_assign 101 = .ok (.iload 6, 2) := by decide +kernel
theorem dX5_assign_103 : decode cX5_assign 103 = .ok (.dup2, 1) := by decide +kernel
theorem dX5_assign_104 : decode cX5_assign 104 = .ok (.iaload, 1) := by decide +kernel
theorem dX5_assign_105 : decode cX5_assign 105 = .ok (.iload 7, 2) := by decide +kernel
theorem dX5_assign_107 : decode cX5_assign 107 = .ok (.ior, 1) := by decide +kernel
theorem dX5_assign_108 : decode cX5_assign 108 = .ok (.iastore, 1) := by decide +kernel
theorem dX5_assign_109 : decode cX5_assign 109 = .ok (.aload_n 0, 1) := by decide +kernel
theorem dX5_assign_110 : decode cX5_assign 110 = .ok (.getfield 39, 3) := by decide +kernel
theorem dX5_assign_113 : decode cX5_assign 113 = .ok (.iload_n 2, 1) := by decide +kernel
theorem dX5_assign_114 : decode cX5_assign 114 = .ok (.iload 4, 2) := by decide +kernel
theorem dX5_assign_116 : decode cX5_assign 116 = .ok (.iload 5, 2) := by decide +kernel
theorem dX5_assign_118 : decode cX5_assign 118 = .ok (.invokevirtual 257, 3) := by decide +kernel
theorem dX5_assign_121 : decode cX5_assign 121 = .ok (.aload_n 0, 1) := by decide +kernel
theorem dX5_assign_122 : decode cX5_assign 122 = .ok (.iload 4, 2) := by decide +kernel
theorem dX5_assign_124 : decode cX5_assign 124 = .ok (.iload_n 3, 1) := by decide +kernel
theorem dX5_assign_125 : decode cX5_assign 125 = .ok (.invokevirtual 167, 3) := by decide +kernel
theorem dX5_assign_128 : decode cX5_assign 128 = .ok (.return_, 1) := by decide +kernel
theorem dX5_box_0 : decode cX5_box 0 = .ok (.aload_n 0, 1) := by decide +kernel
theorem dX5_box_1 : decode cX5_box 1 = .ok (.getfield 39, 3) := by decide +kernel
theorem dX5_box_4 : decode cX5_box 4 = .ok (.iload_n 1, 1) := by decide +kernel
theorem dX5_box_5 : decode cX5_box 5 = .ok (.invokevirtual 188, 3) := by decide +kernel
theorem dX5_box_8 : decode cX5_box 8 = .ok (.istore_n 2, 1) := by decide +kernel
theorem dX5_box_9 : decode cX5_box 9 = .ok (.iload_n 2, 1) := by decide +kernel
theorem dX5_box_10 : decode cX5_box 10 = .ok (.ifCond .ge 10, 3) := by decide +kernel
theorem dX5_box_13 : decode cX5_box 13 = .ok (.aload_n 0, 1) := by decide +kernel
theorem dX5_box_14 : decode cX5_box 14 = .ok (.bipush 9, 2) := by decide +kernel
theorem dX5_box_16 : decode cX5_box 16 = .ok (.invokevirtual 172, 3) := by decide +kernel
theorem dX5_box_19 : decode cX5_box 19 = .ok (.return_, 1) := by decide +kernel
theorem dX5_box_20 : decode cX5_box 20 = .ok (.aload_n 0, 1) := by decide +kernel
theorem dX5_box_21 : decode cX5_box 21 = .ok (.iload_n 2, 1) := by decide +kernel
theorem dX5_box_22 : decode cX5_box 22 = .ok (.iload_n 1, 1) := by decide +kernel
theorem dX5_box_23 : decode cX5_box 23 = .ok (.invokevirtual 167, 3) := by decide +kernel
theorem dX5_box_26 : decode cX5_box 26 = .ok (.aload_n 0, 1) := by decide +kernel
theorem dX5_box_27 : decode cX5_box 27 = .ok (.iload_n 2, 1) := by decide +kernel
theorem dX5_box_28 : decode cX5_box 28 = .ok (.i2l, 1) := by decide +kernel
theorem dX5_box_29 : decode cX5_box 29 = .ok (.invokevirtual 129, 3) := by decide +kernel
theorem dX5_box_32 : decode cX5_box 32 = .ok (.return_, 1) := by decide +kernel
theorem dX5_burn_0 : decode cX5_burn 0 = .ok (.aload_n 0, 1) := by decide +kernel
theorem dX5_burn_1 : decode cX5_burn 1 = .ok (.getfield 50, 3) := by decide +kernel
theorem dX5_burn_4 : decode cX5_burn 4 = .ok (.ifCond .ne 11, 3) := by decide +kernel
theorem dX5_burn_7 : decode cX5_burn 7 = .ok (.aload_n 0, 1) := by decide +kernel
theorem dX5_burn_8 : decode cX5_burn 8 = .ok (.bipush 8, 2) := by decide +kernel
theorem dX5_burn_10 : decode cX5_burn 10 = .ok (.invokevirtual 172, 3) := by decide +kernel
theorem dX5_burn_13 : decode cX5_burn 13 = .ok (.iconst 0, 1) := by decide +kernel
theorem dX5_burn_14 : decode cX5_burn 14 = .ok (.ireturn, 1) := by decide +kernel
theorem dX5_burn_15 : decode cX5_burn 15 = .ok (.aload_n 0, 1) := by decide +kernel
theorem dX5_burn_16 : decode cX5_burn 16 = .ok (.dup, 1) := by decide +kernel
theorem dX5_burn_17 : decode cX5_burn 17 = .ok (.getfield 50, 3) := by decide +kernel
theorem dX5_burn_20 : decode cX5_burn 20 = .ok (.iconst 1, 1) := by decide +kernel
theorem dX5_burn_21 : decode cX5_burn 21 = .ok (.isub, 1) := by decide +kernel
theorem dX5_burn_22 : decode cX5_burn 22 = .ok (.putfield 50, 3) := by decide +kernel
theorem dX5_burn_25 : decode cX5_burn 25 = .ok (.iconst 1, 1) := by decide +kernel
theorem dX5_burn_26 : decode cX5_burn 26 = .ok (.ireturn, 1) := by decide +kernel
theorem dX5_call_0 : decode cX5_call 0 = .ok (.aload_n 0, 1) := by decide +kernel
theorem dX5_call_1 : decode cX5_call 1 = .ok (.invokevirtual 213, 3) := by decide +kernel
theorem dX5_call_4 : decode cX5_call 4 = .ok (.ifCond .ne 4, 3) := by decide +kernel
theorem dX5_call_7 : decode cX5_call 7 = .ok (.return_, 1) := by decide +kernel
theorem dX5_call_8 : decode cX5_call 8 = .ok (.aload_n 0, 1) := by decide +kernel
theorem dX5_call_9 : decode cX5_call 9 = .ok (.getfield 61, 3) := by decide +kernel
theorem dX5_call_12 : decode cX5_call 12 = .ok (.bipush 60, 2) := by decide +kernel
theorem dX5_call_14 : decode cX5_call 14 = .ok (.if_icmp .ne 10, 3) := by decide +kernel
theorem dX5_call_17 : decode cX5_call 17 = .ok (.aload_n 0, 1) := by decide +kernel
theorem dX5_call_18 : decode cX5_call 18 = .ok (.bipush 10, 2) := by decide +kernel
theorem dX5_call_20 : decode cX5_call 20 = .ok (.invokevirtual 172, 3) := by decide +kernel
theorem dX5_call_23 : decode cX5_call 23 = .ok (.return_, 1) := by decide +kernel
theorem dX5_call_24 : decode cX5_call 24 = .ok (.aload_n 0, 1) := by decide +kernel
theorem dX5_call_25 : decode cX5_call 25 = .ok (.getfield 11, 3) := by decide +kernel
theorem dX5_call_28 : decode cX5_call 28 = .ok (.aload_n 0, 1) := by decide +kernel
theorem dX5_call_29 : decode cX5_call 29 = .ok (.getfield 61, 3) := by decide +kernel
theorem dX5_call_32 : decode cX5_call 32 = .ok (.aload_n 0, 1) := by decide +kernel
theorem dX5_call_33 : decode cX5_call 33 = .ok (.getfield 111, 3) := by decide +kernel
theorem dX5_call_36 : decode cX5_call 36 = .ok (.aastore, 1) := by decide +kernel
theorem dX5_call_37 : decode cX5_call 37 = .ok (.aload_n 0, 1) := by decide +kernel
theorem dX5_call_38 : decode cX5_call 38 = .ok (.getfield 17, 3) := by decide +kernel
theorem dX5_call_41 : decode cX5_call 41 = .ok (.aload_n 0, 1) := by decide +kernel
theorem dX5_call_42 : decode cX5_call 42 = .ok (.getfield 61, 3) := by decide +kernel
theorem dX5_call_45 : decode cX5_call 45 = .ok (.aload_n 0, 1) := by decide +kernel
theorem dX5_call_46 : decode cX5_call 46 = .ok (.getfield 81, 3) := by decide +kernel
theorem dX5_call_49 : decode cX5_call 49 = .ok (.iastore, 1) := by decide +kernel
theorem dX5_call_50 : decode cX5_call 50 = .ok (.aload_n 0, 1) := by decide +kernel
theorem dX5_call_51 : decode cX5_call 51 = .ok (.getfield 21, 3) := by decide +kernel
theorem dX5_call_54 : decode cX5_call 54 = .ok (.aload_n 0, 1) := by decide +kernel
theorem dX5_call_55 : decode cX5_call 55 = .ok (.getfield 61, 3) := by decide +kernel
theorem dX5_call_58 : decode cX5_call 58 = .ok (.aload_n 0, 1) := by decide +kernel
theorem dX5_call_59 : decode cX5_call 59 = .ok (.getfield 70, 3) := by decide +kernel
theorem dX5_call_62 : decode cX5_call 62 = .ok (.iastore, 1) := by decide +kernel
theorem dX5_call_63 : decode cX5_call 63 = .ok (.aload_n 0, 1) := by decide +kernel
theorem dX5_call_64 : decode cX5_call 64 = .ok (.aload_n 0, 1) := by decide +kernel
theorem dX5_call_65 : decode cX5_call 65 = .ok (.getfield 61, 3) := by decide +kernel
theorem dX5_call_68 : decode cX5_call 68 = .ok (.bipush 40, 2) := by decide +kernel
theorem dX5_call_70 : decode cX5_call 70 = .ok (.imul, 1) := by decide +kernel
theorem dX5_call_71 : decode cX5_call 71 = .ok (.putfield 175, 3) := by decide +kernel
theorem dX5_call_74 : decode cX5_call 74 = .ok (.aload_n 0, 1) := by decide +kernel
theorem dX5_call_75 : decode cX5_call 75 = .ok (.dup, 1) := by decide +kernel
theorem dX5_call_76 : decode cX5_call 76 = .ok (.getfield 61, 3) := by decide +kernel
theorem dX5_call_79 : decode cX5_call 79 = .ok (.iconst 1, 1) := by decide +kernel
theorem dX5_call_80 : decode cX5_call 80 = .ok (.iadd, 1) := by decide +kernel
theorem dX5_call_81 : decode cX5_call 81 = .ok (.putfield 61, 3) := by decide +kernel
theorem dX5_call_84 : decode cX5_call 84 = .ok (.aload_n 0, 1) := by decide +kernel
theorem dX5_call_85 : decode cX5_call 85 = .ok (.aload_n 0, 1) := by decide +kernel
theorem dX5_call_86 : decode cX5_call 86 = .ok (.getfield 35, 3) := by decide +kernel
theorem dX5_call_89 : decode cX5_call 89 = .ok (.getfield 220, 3) := by decide +kernel
theorem dX5_call_92 : decode cX5_call 92 = .ok (.iload_n 1, 1) := by decide +kernel
theorem dX5_call_93 : decode cX5_call 93 = .ok (.aaload, 1) := by decide +kernel
theorem dX5_call_94 : decode cX5_call 94 = .ok (.putfield 111, 3) := by decide +kernel
theorem dX5_call_97 : decode cX5_call 97 = .ok (.aload_n 0, 1) := by decide +kernel
theorem dX5_call_98 : decode cX5_call 98 = .ok (.aload_n 0, 1) := by decide +kernel
theorem dX5_call_99 : decode cX5_call 99 = .ok (.getfield 111, 3) := by decide +kernel
theorem dX5_call_102 : decode cX5_call 102 = .ok (.getfield 225, 3) := by decide +kernel
theorem dX5_call_105 : decode cX5_call 105 = .ok (.putfield 81, 3) := by decide +kernel
theorem dX5_call_108 : decode cX5_call 108 = .ok (.aload_n 0, 1) := by decide +kernel
theorem dX5_call_109 : decode cX5_call 109 = .ok (.aload_n 0, 1) := by decide +kernel
theorem dX5_call_110 : decode cX5_call 110 = .ok (.getfield 73, 3) := by decide +kernel
theorem dX5_call_113 : decode cX5_call 113 = .ok (.aload_n 0, 1) := by decide +kernel
theorem dX5_call_114 : decode cX5_call 114 = .ok (.getfield 111, 3) := by decide +kernel
theorem dX5_call_117 : decode cX5_call 117 = .ok (.getfield 228, 3) := by decide +kernel
theorem dX5_call_120 : decode cX5_call 120 = .ok (.isub, 1) := by decide +kernel
theorem dX5_call_121 : decode cX5_call 121 = .ok (.putfield 70, 3) := by decide +kernel
theorem dX5_call_124 : decode cX5_call 124 = .ok (.aload_n 0, 1) := by decide +kernel
theorem dX5_call_125 : decode cX5_call 125 = .ok (.aload_n 0, 1) := by decide +kernel
theorem dX5_call_126 : decode cX5_call 126 = .ok (.getfield 70, 3) := by decide +kernel
theorem dX5_call_129 : decode cX5_call 129 = .ok (.aload_n 0, 1) := by decide +kernel
theorem dX5_call_130 : decode cX5_call 130 = .ok (.getfield 111, 3) := by decide +kernel
theorem dX5_call_133 : decode cX5_call 133 = .ok (.getfield 231, 3) := by decide +kernel
theorem dX5_call_136 : decode cX5_call 136 = .ok (.iadd, 1) := by decide +kernel
theorem dX5_call_137 : decode cX5_call 137 = .ok (.putfield 73, 3) := by decide +kernel
theorem dX5_call_140 : decode cX5_call 140 = .ok (.aload_n 0, 1) := by decide +kernel
theorem dX5_call_141 : decode cX5_call 141 = .ok (.getfield 39, 3) := by decide +kernel
theorem dX5_call_144 : decode cX5_call 144 = .ok (.aload_n 0, 1) := by decide +kernel
theorem dX5_call_145 : decode cX5_call 145 = .ok (.getfield 73, 3) := by decide +kernel
theorem dX5_call_148 : decode cX5_call 148 = .ok (.sipush 3600, 3) := by decide +kernel
theorem dX5_call_151 : decode cX5_call 151 = .ok (.iadd, 1) := by decide +kernel
theorem dX5_call_152 : decode cX5_call 152 = .ok (.invokevirtual 233, 3) := by decide +kernel
theorem dX5_call_155 : decode cX5_call 155 = .ok (.iconst 0, 1) := by decide +kernel
theorem dX5_call_156 : decode cX5_call 156 = .ok (.istore_n 2, 1) := by decide +kernel
theorem dX5_call_157 : decode cX5_call 157 = .ok (.iload_n 2, 1) := by decide +kernel
theorem dX5_call_158 : decode cX5_call 158 = .ok (.aload_n 0, 1) := by decide +kernel
theorem dX5_call_159 : decode cX5_call 159 = .ok (.getfield 111, 3) := by decide +kernel
theorem dX5_call_162 : decode cX5_call 162 = .ok (.getfield 236, 3) := by decide +kernel
theorem dX5_call_165 : decode cX5_call 165 = .ok (.if_icmp .ge 40, 3) := by decide +kernel
theorem dX5_call_168 : decode cX5_call 168 = .ok (.aload_n 0, 1) := by decide +kernel
theorem dX5_call_169 : decode cX5_call 169 = .ok (.getfield 24, 3) := by decide +kernel
theorem dX5_call_172 : decode cX5_call 172 = .ok (.aload_n 0, 1) := by decide +kernel
theorem dX5_call_173 : decode cX5_call 173 = .ok (.getfield 175, 3) := by decide +kernel
theorem dX5_call_176 : decode cX5_call 176 = .ok (.iload_n 2, 1) := by decide +kernel
theorem dX5_call_177 : decode cX5_call 177 = .ok (.iadd, 1) := by decide +kernel
theorem dX5_call_178 : decode cX5_call 178 = .ok (.iload_n 2, 1) := by decide +kernel
theorem dX5_call_179 : decode cX5_call 179 = .ok (.aload_n 0, 1) := by decide +kernel
theorem dX5_call_180 : decode cX5_call 180 = .ok (.getfield 111, 3) := by decide +kernel
theorem dX5_call_183 : decode cX5_call 183 = .ok (.getfield 239, 3) := by decide +kernel
theorem dX5_call_186 : decode cX5_call 186 = .ok (.if_icmp .ge 11, 3) := by decide +kernel
theorem dX5_call_189 : decode cX5_call 189 = .ok (.aload_n 0, 1) := by decide +kernel
theorem dX5_call_190 : decode cX5_call 190 = .ok (.iload_n 2, 1) := by decide +kernel
theorem dX5_call_191 : decode cX5_call 191 = .ok (.invokevirtual 242, 3) := by decide +kernel
theorem dX5_call_194 : decode cX5_call 194 = .ok (.goto 4, 3) := by decide +kernel
theorem dX5_call_197 : decode cX5_call 197 = .ok (.iconst 0, 1) := by decide +kernel
theorem dX5_call_198 : decode cX5_call 198 = .ok (.iastore, 1) := by decide +kernel
theorem dX5_call_199 : decode cX5_call 199 = .ok (.iinc 2 1, 3) := by decide +kernel
theorem dX5_call_202 : decode cX5_call 202 = .ok (.goto (-45), 3) := by decide +kernel
theorem dX5_call_205 : decode cX5_call 205 = .ok (.return_, 1) := by decide +kernel
theorem dX5_cellsOf_0 : decode cX5_cellsOf 0 = .ok (.iconst 1, 1) := by decide +kernel
theorem dX5_cellsOf_1 : decode cX5_cellsOf 1 = .ok (.aload_n 0, 1) := by decide +kernel
theorem dX5_cellsOf_2 : decode cX5_cellsOf 2 = .ok (.getfield 31, 3) := by decide +kernel
theorem dX5_cellsOf_5 : decode cX5_cellsOf 5 = .ok (.getfield 143, 3) := by decide +kernel
theorem dX5_cellsOf_8 : decode cX5_cellsOf 8 = .ok (.aload_n 0, 1) := by decide +kernel
theorem dX5_cellsOf_9 : decode cX5_cellsOf 9 = .ok (.getfield 111, 3) := by decide +kernel
theorem dX5_cellsOf_12 : decode cX5_cellsOf 12 = .ok (.getfield 245, 3) := by decide +kernel
theorem dX5_cellsOf_15 : decode cX5_cellsOf 15 = .ok (.iload_n 1, 1) := by decide +kernel
theorem dX5_cellsOf_16 : decode cX5_cellsOf 16 = .ok (.iaload, 1) := by decide +kernel
theorem dX5_cellsOf_17 : decode cX5_cellsOf 17 = .ok (.iaload, 1) := by decide +kernel
theorem dX5_cellsOf_18 : decode cX5_cellsOf 18 = .ok (.ishl, 1) := by decide +kernel
theorem dX5_cellsOf_19 : decode cX5_cellsOf 19 = .ok (.iconst 1, 1) := by decide +kernel
theorem dX5_cellsOf_20 : decode cX5_cellsOf 20 = .ok (.isub, 1) := by decide +kernel
theorem dX5_cellsOf_21 : decode cX5_cellsOf 21 = .ok (.ireturn, 1) := by decide +kernel
theorem dX5_dropVariables_0 : decode cX5_dropVariables 0 = .ok (.iload_n 2, 1) := by decide +kernel
theorem dX5_dropVariables_1 : decode cX5_dropVariables 1 = .ok (.iconst 1, 1) := by decide +kernel
theorem dX5_dropVariables_2 : decode cX5_dropVariables 2 = .ok (.isub, 1) := by decide +kernel
theorem dX5_dropVariables_3 : decode cX5_dropVariables 3 = .ok (.istore_n 3, 1) := by decide +kernel
theorem dX5_dropVariables_4 : decode cX5_dropVariables 4 = .ok (.iload_n 3, 1) := by decide +kernel
theorem dX5_dropVariables_5 : decode cX5_dropVariables 5 = .ok (.iload_n 1, 1) := by decide +kernel
theorem dX5_dropVariables_6 : decode cX5_dropVariables 6 = .ok (.if_icmp .lt 71, 3) := by decide +kernel
theorem dX5_dropVariables_9 : decode cX5_dropVariables 9 = .ok (.aload_n 0, 1) := by decide +kernel
theorem dX5_dropVariables_10 : decode cX5_dropVariables 10 = .ok (.getfield 24, 3) := by decide +kernel
theorem dX5_dropVariables_13 : decode cX5_dropVariables 13 = .ok (.aload_n 0, 1) := by decide +kernel
theorem dX5_dropVariables_14 : decode cX5_dropVariables 14 = .ok (.getfield 175, 3) := by decide +kernel
theorem dX5_dropVariables_17 : decode cX5_dropVariables 17 = .ok (.iload_n 3, 1) := by decide +kernel
theorem dX5_dropVariables_18 : decode cX5_dropVariables 18 = .ok (.iadd, 1) := by decide +kernel
theorem dX5_dropVariables_19 : decode cX5_dropVariables 19 = .ok (.iaload, 1) := by decide +kernel
theorem dX5_dropVariables_20 : decode cX5_dropVariables 20 = .ok (.istore 4, 2) := by decide +kernel
theorem dX5_dropVariables_22 : decode cX5_dropVariables 22 = .ok (.iload 4, 2) := by decide +kernel
theorem dX5_dropVariables_24 : decode cX5_dropVariables 24 = .ok (.ifCond .eq 47, 3) := by decide +kernel
theorem dX5_dropVariables_27 : decode cX5_dropVariables 27 = .ok (.aload_n 0, 1) := by decide +kernel
theorem dX5_dropVariables_28 : decode cX5_dropVariables 28 = .ok (.getfield 39, 3) := by decide +kernel
theorem dX5_dropVariables_31 : decode cX5_dropVariables 31 = .ok (.aload_n 0, 1) := by decide +kernel
theorem dX5_dropVariables_32 : decode cX5_dropVariables 32 = .ok (.getfield 111, 3) := by decide +kernel
theorem dX5_dropVariables_35 : decode cX5_dropVariables 35 = .ok (.getfield 245, 3) := by decide +kernel
theorem dX5_dropVariables_38 : decode cX5_dropVariables 38 = .ok (.iload_n 3, 1) := by decide +kernel
theorem dX5_dropVariables_39 : decode cX5_dropVariables 39 = .ok (.iaload, 1) := by decide +kernel
theorem dX5_dropVariables_40 : decode cX5_dropVariables 40 = .ok (.aload_n 0, 1) := by decide +kernel
theorem dX5_dropVariables_41 : decode cX5_dropVariables 41 = .ok (.getfield 70, 3) := by decide +kernel
theorem dX5_dropVariables_44 : decode cX5_dropVariables 44 = .ok (.aload_n 0, 1) := by decide +kernel
theorem dX5_dropVariables_45 : decode cX5_dropVariables 45 = .ok (.getfield 111, 3) := by decide +kernel
theorem dX5_dropVariables_48 : decode cX5_dropVariables 48 = .ok (.getfield 115, 3) := by decide +kernel
theorem dX5_dropVariables_51 : decode cX5_dropVariables 51 = .ok (.iload_n 3, 1) := by decide +kernel
theorem dX5_dropVariables_52 : decode cX5_dropVariables 52 = .ok (.iaload, 1) := by decide +kernel
theorem dX5_dropVariables_53 : decode cX5_dropVariables 53 = .ok (.iadd, 1) := by decide +kernel
theorem dX5_dropVariables_54 : decode cX5_dropVariables 54 = .ok (.iload 4, 2) := by decide +kernel
theorem dX5_dropVariables_56 : decode cX5_dropVariables 56 = .ok (.invokevirtual 257, 3) := by decide +kernel
theorem dX5_dropVariables_59 : decode cX5_dropVariables 59 = .ok (.aload_n 0, 1) := by decide +kernel
theorem dX5_dropVariables_60 : decode cX5_dropVariables 60 = .ok (.getfield 24, 3) := by decide +kernel
theorem dX5_dropVariables_63 : decode cX5_dropVariables 63 = .ok (.aload_n 0, 1) := by decide +kernel
theorem dX5_dropVariables_64 : decode cX5_dropVariables 64 = .ok (.getfield 175, 3) := by decide +kernel
theorem dX5_dropVariables_67 : decode cX5_dropVariables 67 = .ok (.iload_n 3, 1) := by decide +kernel
theorem dX5_dropVariables_68 : decode cX5_dropVariables 68 = .ok (.iadd, 1) := by decide +kernel
theorem dX5_dropVariables_69 : decode cX5_dropVariables 69 = .ok (.iconst 0, 1) := by decide +kernel
theorem dX5_dropVariables_70 : decode cX5_dropVariables 70 = .ok (.iastore, 1) := by decide +kernel
theorem dX5_dropVariables_71 : decode cX5_dropVariables 71 = .ok (.iinc 3 (-1), 3) := by decide +kernel
theorem dX5_dropVariables_74 : decode cX5_dropVariables 74 = .ok (.goto (-70), 3) := by decide +kernel
theorem dX5_dropVariables_77 : decode cX5_dropVariables 77 = .ok (.return_, 1) := by decide +kernel
theorem dX5_execute_0 : decode cX5_execute 0 = .ok (.aload_n 0, 1) := by decide +kernel
theorem dX5_execute_1 : decode cX5_execute 1 = .ok (.iload_n 2, 1) := by decide +kernel
theorem dX5_execute_2 : decode cX5_execute 2 = .ok (.putfield 50, 3) := by decide +kernel
theorem dX5_execute_5 : decode cX5_execute 5 = .ok (.aload_n 0, 1) := by decide +kernel
theorem dX5_execute_6 : decode cX5_execute 6 = .ok (.iconst 0, 1) := by decide +kernel
theorem dX5_execute_7 : decode cX5_execute 7 = .ok (.putfield 54, 3) := by decide +kernel
theorem dX5_execute_10 : decode cX5_execute 10 = .ok (.aload_n 0, 1) := by decide +kernel
theorem dX5_execute_11 : decode cX5_execute 11 = .ok (.iconst 1, 1) := by decide +kernel
theorem dX5_execute_12 : decode cX5_execute 12 = .ok (.putfield 57, 3) := by decide +kernel
theorem dX5_execute_15 : decode cX5_execute 15 = .ok (.aload_n 0, 1) := by decide +kernel
theorem dX5_execute_16 : decode cX5_execute 16 = .ok (.iconst 0, 1) := by decide +kernel
theorem dX5_execute_17 : decode cX5_execute 17 = .ok (.putfield 61, 3) := by decide +kernel
theorem dX5_execute_20 : decode cX5_execute 20 = .ok (.aload_n 0, 1) := by decide +kernel
theorem dX5_execute_21 : decode cX5_execute 21 = .ok (.aload_n 0, 1) := by decide +kernel
theorem dX5_execute_22 : decode cX5_execute 22 = .ok (.getfield 39, 3) := by decide +kernel
theorem dX5_execute_25 : decode cX5_execute 25 = .ok (.invokevirtual 64, 3) := by decide +kernel
theorem dX5_execute_28 : decode cX5_execute 28 = .ok (.putfield 70, 3) := by decide +kernel
theorem dX5_execute_31 : decode cX5_execute 31 = .ok (.aload_n 0, 1) := by decide +kernel
theorem dX5_execute_32 : decode cX5_execute 32 = .ok (.aload_n 0, 1) := by decide +kernel
theorem dX5_execute_33 : decode cX5_execute 33 = .ok (.getfield 70, 3) := by decide +kernel
theorem dX5_execute_36 : decode cX5_execute 36 = .ok (.putfield 73, 3) := by decide +kernel
theorem dX5_execute_39 : decode cX5_execute 39 = .ok (.aload_n 0, 1) := by decide +kernel
theorem dX5_execute_40 : decode cX5_execute 40 = .ok (.iload_n 1, 1) := by decide +kernel
theorem dX5_execute_41 : decode cX5_execute 41 = .ok (.invokevirtual 76, 3) := by decide +kernel
theorem dX5_execute_44 : decode cX5_execute 44 = .ok (.iconst 0, 1) := by decide +kernel
theorem dX5_execute_45 : decode cX5_execute 45 = .ok (.istore_n 3, 1) := by decide +kernel
theorem dX5_execute_46 : decode cX5_execute 46 = .ok (.iload_n 3, 1) := by decide +kernel
theorem dX5_execute_47 : decode cX5_execute 47 = .ok (.ldc 80, 2) := by decide +kernel
theorem dX5_execute_49 : decode cX5_execute 49 = .ok (.if_icmp .ge 86, 3) := by decide +kernel
theorem dX5_execute_52 : decode cX5_execute 52 = .ok (.aload_n 0, 1) := by decide +kernel
theorem dX5_execute_53 : decode cX5_execute 53 = .ok (.getfield 57, 3) := by decide +kernel
theorem dX5_execute_56 : decode cX5_execute 56 = .ok (.ifCond .eq 79, 3) := by decide +kernel
theorem dX5_execute_59 : decode cX5_execute 59 = .ok (.aload_n 0, 1) := by decide +kernel
theorem dX5_execute_60 : decode cX5_execute 60 = .ok (.getfield 81, 3) := by decide +kernel
theorem dX5_execute_63 : decode cX5_execute 63 = .ok (.istore 4, 2) := by decide +kernel
theorem dX5_execute_65 : decode cX5_execute 65 = .ok (.aload_n 0, 1) := by decide +kernel
theorem dX5_execute_66 : decode cX5_execute 66 = .ok (.dup, 1) := by decide +kernel
theorem dX5_execute_67 : decode cX5_execute 67 = .ok (.getfield 81, 3) := by decide +kernel
theorem dX5_execute_70 : decode cX5_execute 70 = .ok (.iconst 1, 1) := by decide +kernel
theorem dX5_execute_71 : decode cX5_execute 71 = .ok (.iadd, 1) := by decide +kernel
theorem dX5_execute_72 : decode cX5_execute 72 = .ok (.putfield 81, 3) := by decide +kernel
theorem dX5_execute_75 : decode cX5_execute 75 = .ok (.aload_n 0, 1) := by decide +kernel
theorem dX5_execute_76 : decode cX5_execute 76 = .ok (.getfield 27, 3) := by decide +kernel
theorem dX5_execute_79 : decode cX5_execute 79 = .ok (.getfield 84, 3) := by decide +kernel
theorem dX5_execute_82 : decode cX5_execute 82 = .ok (.iload 4, 2) := by decide +kernel
theorem dX5_execute_84 : decode cX5_execute 84 = .ok (.iaload, 1) := by decide +kernel
theorem dX5_execute_85 : decode cX5_execute 85 = .ok (.bipush 13, 2) := by decide +kernel
theorem dX5_execute_87 : decode cX5_execute 87 = .ok (.if_icmp .ge 12, 3) := by decide +kernel
theorem dX5_execute_90 : decode cX5_execute 90 = .ok (.aload_n 0, 1) := by decide +kernel
theorem dX5_execute_91 : decode cX5_execute 91 = .ok (.iload 4, 2) := by decide +kernel
theorem dX5_execute_93 : decode cX5_execute 93 = .ok (.invokevirtual 89, 3) := by decide +kernel
theorem dX5_execute_96 : decode cX5_execute 96 = .ok (.goto 33, 3) := by decide +kernel
theorem dX5_execute_99 : decode cX5_execute 99 = .ok (.aload_n 0, 1) := by decide +kernel
theorem dX5_execute_100 : decode cX5_execute 100 = .ok (.getfield 27, 3) := by decide +kernel
theorem dX5_execute_103 : decode cX5_execute 103 = .ok (.getfield 84, 3) := by decide +kernel
theorem dX5_execute_106 : decode cX5_execute 106 = .ok (.iload 4, 2) := by decide +kernel
theorem dX5_execute_108 : decode cX5_execute 108 = .ok (.iaload, 1) := by decide +kernel
theorem dX5_execute_109 : decode cX5_execute 109 = .ok (.bipush 24, 2) := by decide +kernel
theorem dX5_execute_111 : decode cX5_execute 111 = .ok (.if_icmp .ge 12, 3) := by decide +kernel
theorem dX5_execute_114 : decode cX5_execute 114 = .ok (.aload_n 0, 1) := by decide +kernel
theorem dX5_execute_115 : decode cX5_execute 115 = .ok (.iload 4, 2) := by decide +kernel
theorem dX5_execute_117 : decode cX5_execute 117 = .ok (.invokevirtual 92, 3) := by decide +kernel
theorem dX5_execute_120 : decode cX5_execute 120 = .ok (.goto 9, 3) := by decide +kernel
theorem dX5_execute_123 : decode cX5_execute 123 = .ok (.aload_n 0, 1) := by decide +kernel
theorem dX5_execute_124 : decode cX5_execute 124 = .ok (.iload 4, 2) := by decide +kernel
theorem dX5_execute_126 : decode cX5_execute 126 = .ok (.invokevirtual 95, 3) := by decide +kernel
theorem dX5_execute_129 : decode cX5_execute 129 = .ok (.iinc 3 1, 3) := by decide +kernel
theorem dX5_execute_132 : decode cX5_execute 132 = .ok (.goto (-86), 3) := by decide +kernel
theorem dX5_execute_135 : decode cX5_execute 135 = .ok (.aload_n 0, 1) := by decide +kernel
theorem dX5_execute_136 : decode cX5_execute 136 = .ok (.getfield 54, 3) := by decide +kernel
theorem dX5_execute_139 : decode cX5_execute 139 = .ok (.ireturn, 1) := by decide +kernel
theorem dX5_fill_0 : decode cX5_fill 0 = .ok (.aload_n 0, 1) := by decide +kernel
theorem dX5_fill_1 : decode cX5_fill 1 = .ok (.aload_n 0, 1) := by decide +kernel
theorem dX5_fill_2 : decode cX5_fill 2 = .ok (.getfield 70, 3) := by decide +kernel
theorem dX5_fill_5 : decode cX5_fill 5 = .ok (.aload_n 0, 1) := by decide +kernel
theorem dX5_fill_6 : decode cX5_fill 6 = .ok (.getfield 111, 3) := by decide +kernel
theorem dX5_fill_9 : decode cX5_fill 9 = .ok (.getfield 115, 3) := by decide +kernel
theorem dX5_fill_12 : decode cX5_fill 12 = .ok (.iload_n 1, 1) := by decide +kernel
theorem dX5_fill_13 : decode cX5_fill 13 = .ok (.iaload, 1) := by decide +kernel
theorem dX5_fill_14 : decode cX5_fill 14 = .ok (.iadd, 1) := by decide +kernel
theorem dX5_fill_15 : decode cX5_fill 15 = .ok (.aload_n 0, 1) := by decide +kernel
theorem dX5_fill_16 : decode cX5_fill 16 = .ok (.getfield 31, 3) := by decide +kernel
theorem dX5_fill_19 : decode cX5_fill 19 = .ok (.getfield 143, 3) := by decide +kernel
theorem dX5_fill_22 : decode cX5_fill 22 = .ok (.aload_n 0, 1) := by decide +kernel
theorem dX5_fill_23 : decode cX5_fill 23 = .ok (.getfield 111, 3) := by decide +kernel
theorem dX5_fill_26 : decode cX5_fill 26 = .ok (.getfield 245, 3) := by decide +kernel
theorem dX5_fill_29 : decode cX5_fill 29 = .ok (.iload_n 1, 1) := by decide +kernel
theorem dX5_fill_30 : decode cX5_fill 30 = .ok (.iaload, 1) := by decide +kernel
theorem dX5_fill_31 : decode cX5_fill 31 = .ok (.iaload, 1) := by decide +kernel
theorem dX5_fill_32 : decode cX5_fill 32 = .ok (.invokevirtual 167, 3) := by decide +kernel
theorem dX5_fill_35 : decode cX5_fill 35 = .ok (.aload_n 0, 1) := by decide +kernel
theorem dX5_fill_36 : decode cX5_fill 36 = .ok (.getfield 24, 3) := by decide +kernel
theorem dX5_fill_39 : decode cX5_fill 39 = .ok (.aload_n 0, 1) := by decide +kernel
theorem dX5_fill_40 : decode cX5_fill 40 = .ok (.getfield 175, 3) := by decide +kernel
theorem dX5_fill_43 : decode cX5_fill 43 = .ok (.iload_n 1, 1) := by decide +kernel
theorem dX5_fill_44 : decode cX5_fill 44 = .ok (.iadd, 1) := by decide +kernel
theorem dX5_fill_45 : decode cX5_fill 45 = .ok (.aload_n 0, 1) := by decide +kernel
theorem dX5_fill_46 : decode cX5_fill 46 = .ok (.iload_n 1, 1) := by decide +kernel
theorem dX5_fill_47 : decode cX5_fill 47 = .ok (.invokevirtual 242, 3) := by decide +kernel
theorem dX5_fill_50 : decode cX5_fill 50 = .ok (.iastore, 1) := by decide +kernel
theorem dX5_fill_51 : decode cX5_fill 51 = .ok (.return_, 1) := by decide +kernel
theorem dX5_giveBack_0 : decode cX5_giveBack 0 = .ok (.aload_n 0, 1) := by decide +kernel
theorem dX5_giveBack_1 : decode cX5_giveBack 1 = .ok (.getfield 73, 3) := by decide +kernel
theorem dX5_giveBack_4 : decode cX5_giveBack 4 = .ok (.iload_n 1, 1) := by decide +kernel
theorem dX5_giveBack_5 : decode cX5_giveBack 5 = .ok (.isub, 1) := by decide +kernel
theorem dX5_giveBack_6 : decode cX5_giveBack 6 = .ok (.istore_n 2, 1) := by decide +kernel
theorem dX5_giveBack_7 : decode cX5_giveBack 7 = .ok (.aload_n 0, 1) := by decide +kernel
theorem dX5_giveBack_8 : decode cX5_giveBack 8 = .ok (.iconst 0, 1) := by decide +kernel
theorem dX5_giveBack_9 : decode cX5_giveBack 9 = .ok (.aload_n 0, 1) := by decide +kernel
theorem dX5_giveBack_10 : decode cX5_giveBack 10 = .ok (.getfield 111, 3) := by decide +kernel
theorem dX5_giveBack_13 : decode cX5_giveBack 13 = .ok (.getfield 236, 3) := by decide +kernel
theorem dX5_giveBack_16 : decode cX5_giveBack 16 = .ok (.invokevirtual 248, 3) := by decide +kernel
theorem dX5_giveBack_19 : decode cX5_giveBack 19 = .ok (.aload_n 0, 1) := by decide +kernel
theorem dX5_giveBack_20 : decode cX5_giveBack 20 = .ok (.getfield 39, 3) := by decide +kernel
theorem dX5_giveBack_23 : decode cX5_giveBack 23 = .ok (.getfield 98, 3) := by decide +kernel
theorem dX5_giveBack_26 : decode cX5_giveBack 26 = .ok (.iload_n 2, 1) := by decide +kernel
theorem dX5_giveBack_27 : decode cX5_giveBack 27 = .ok (.aload_n 0, 1) := by decide +kernel
theorem dX5_giveBack_28 : decode cX5_giveBack 28 = .ok (.getfield 39, 3) := by decide +kernel
theorem dX5_giveBack_31 : decode cX5_giveBack 31 = .ok (.getfield 98, 3) := by decide +kernel
theorem dX5_giveBack_34 : decode cX5_giveBack 34 = .ok (.aload_n 0, 1) := by decide +kernel
theorem dX5_giveBack_35 : decode cX5_giveBack 35 = .ok (.getfield 70, 3) := by decide +kernel
theorem dX5_giveBack_38 : decode cX5_giveBack 38 = .ok (.iload_n 1, 1) := by decide +kernel
theorem dX5_giveBack_39 : decode cX5_giveBack 39 = .ok (.invokestatic 102, 3) := by decide +kernel
theorem dX5_giveBack_42 : decode cX5_giveBack 42 = .ok (.aload_n 0, 1) := by decide +kernel
theorem dX5_giveBack_43 : decode cX5_giveBack 43 = .ok (.aload_n 0, 1) := by decide +kernel
theorem dX5_giveBack_44 : decode cX5_giveBack 44 = .ok (.getfield 70, 3) := by decide +kernel
theorem dX5_giveBack_47 : decode cX5_giveBack 47 = .ok (.iload_n 1, 1) := by decide +kernel
theorem dX5_giveBack_48 : decode cX5_giveBack 48 = .ok (.iadd, 1) := by decide +kernel
theorem dX5_giveBack_49 : decode cX5_giveBack 49 = .ok (.putfield 73, 3) := by decide +kernel
theorem dX5_giveBack_52 : decode cX5_giveBack 52 = .ok (.aload_n 0, 1) := by decide +kernel
theorem dX5_giveBack_53 : decode cX5_giveBack 53 = .ok (.dup, 1) := by decide +kernel
theorem dX5_giveBack_54 : decode cX5_giveBack 54 = .ok (.getfield 61, 3) := by decide +kernel
theorem dX5_giveBack_57 : decode cX5_giveBack 57 = .ok (.iconst 1, 1) := by decide +kernel
theorem dX5_giveBack_58 : decode cX5_giveBack 58 = .ok (.isub, 1) := by decide +kernel
theorem dX5_giveBack_59 : decode cX5_giveBack 59 = .ok (.putfield 61, 3) := by decide +kernel
theorem dX5_giveBack_62 : decode cX5_giveBack 62 = .ok (.aload_n 0, 1) := by decide +kernel
theorem dX5_giveBack_63 : decode cX5_giveBack 63 = .ok (.aload_n 0, 1) := by decide +kernel
theorem dX5_giveBack_64 : decode cX5_giveBack 64 = .ok (.getfield 11, 3) := by decide +kernel
theorem dX5_giveBack_67 : decode cX5_giveBack 67 = .ok (.aload_n 0, 1) := by decide +kernel
theorem dX5_giveBack_68 : decode cX5_giveBack 68 = .ok (.getfield 61, 3) := by decide +kernel
theorem dX5_giveBack_71 : decode cX5_giveBack 71 = .ok (.aaload, 1) := by decide +kernel
theorem dX5_giveBack_72 : decode cX5_giveBack 72 = .ok (.putfield 111, 3) := by decide +kernel
theorem dX5_giveBack_75 : decode cX5_giveBack 75 = .ok (.aload_n 0, 1) := by decide +kernel
theorem dX5_giveBack_76 : decode cX5_giveBack 76 = .ok (.aload_n 0, 1) := by decide +kernel
theorem dX5_giveBack_77 : decode cX5_giveBack 77 = .ok (.getfield 17, 3) := by decide +kernel
theorem dX5_giveBack_80 : decode cX5_giveBack 80 = .ok (.aload_n 0, 1) := by decide +kernel
theorem dX5_giveBack_81 : decode cX5_giveBack 81 = .ok (.getfield 61, 3) := by decide +kernel
theorem dX5_giveBack_84 : decode cX5_giveBack 84 = .ok (.iaload, 1) := by decide +kernel
theorem dX5_giveBack_85 : decode cX5_giveBack 85 = .ok (.putfield 81, 3) := by decide +kernel
theorem dX5_giveBack_88 : decode cX5_giveBack 88 = .ok (.aload_n 0, 1) := by decide +kernel
theorem dX5_giveBack_89 : decode cX5_giveBack 89 = .ok (.aload_n 0, 1) := by decide +kernel
theorem dX5_giveBack_90 : decode cX5_giveBack 90 = .ok (.getfield 21, 3) := by decide +kernel
theorem dX5_giveBack_93 : decode cX5_giveBack 93 = .ok (.aload_n 0, 1) := by decide +kernel
theorem dX5_giveBack_94 : decode cX5_giveBack 94 = .ok (.getfield 61, 3) := by decide +kernel
theorem dX5_giveBack_97 : decode cX5_giveBack 97 = .ok (.iaload, 1) := by decide +kernel
theorem dX5_giveBack_98 : decode cX5_giveBack 98 = .ok (.putfield 70, 3) := by decide +kernel
theorem dX5_giveBack_101 : decode cX5_giveBack 101 = .ok (.aload_n 0, 1) := by decide +kernel
theorem dX5_giveBack_102 : decode cX5_giveBack 102 = .ok (.aload_n 0, 1) := by decide +kernel
theorem dX5_giveBack_103 : decode cX5_giveBack 103 = .ok (.getfield 61, 3) := by decide +kernel
theorem dX5_giveBack_106 : decode cX5_giveBack 106 = .ok (.iconst 1, 1) := by decide +kernel
theorem dX5_giveBack_107 : decode cX5_giveBack 107 = .ok (.isub, 1) := by decide +kernel
theorem dX5_giveBack_108 : decode cX5_giveBack 108 = .ok (.iconst 0, 1) := by decide +kernel
theorem dX5_giveBack_109 : decode cX5_giveBack 109 = .ok (.invokestatic 251, 3) := by decide +kernel
theorem dX5_giveBack_112 : decode cX5_giveBack 112 = .ok (.bipush 40, 2) := by decide +kernel
theorem dX5_giveBack_114 : decode cX5_giveBack 114 = .ok (.imul, 1) := by decide +kernel
theorem dX5_giveBack_115 : decode cX5_giveBack 115 = .ok (.putfield 175, 3) := by decide +kernel
theorem dX5_giveBack_118 : decode cX5_giveBack 118 = .ok (.aload_n 0, 1) := by decide +kernel
theorem dX5_giveBack_119 : decode cX5_giveBack 119 = .ok (.aload_n 0, 1) := by decide +kernel
theorem dX5_giveBack_120 : decode cX5_giveBack 120 = .ok (.getfield 61, 3) := by decide +kernel
theorem dX5_giveBack_123 : decode cX5_giveBack 123 = .ok (.ifCond .le 7, 3) := by decide +kernel
theorem dX5_giveBack_126 : decode cX5_giveBack 126 = .ok (.iconst 1, 1) := by decide +kernel
theorem dX5_giveBack_127 : decode cX5_giveBack 127 = .ok (.goto 4, 3) := by decide +kernel
theorem dX5_giveBack_130 : decode cX5_giveBack 130 = .ok (.iconst 0, 1) := by decide +kernel
theorem dX5_giveBack_131 : decode cX5_giveBack 131 = .ok (.putfield 57, 3) := by decide +kernel
theorem dX5_giveBack_134 : decode cX5_giveBack 134 = .ok (.return_, 1) := by decide +kernel
theorem dX5_go_0 : decode cX5_go 0 = .ok (.aload_n 0, 1) := by decide +kernel
theorem dX5_go_1 : decode cX5_go 1 = .ok (.getfield 39, 3) := by decide +kernel
theorem dX5_go_4 : decode cX5_go 4 = .ok (.getfield 98, 3) := by decide +kernel
theorem dX5_go_7 : decode cX5_go 7 = .ok (.astore_n 2, 1) := by decide +kernel
theorem dX5_go_8 : decode cX5_go 8 = .ok (.aload_n 0, 1) := by decide +kernel
theorem dX5_go_9 : decode cX5_go 9 = .ok (.getfield 27, 3) := by decide +kernel
theorem dX5_go_12 : decode cX5_go 12 = .ok (.getfield 121, 3) := by decide +kernel
theorem dX5_go_15 : decode cX5_go 15 = .ok (.iload_n 1, 1) := by decide +kernel
theorem dX5_go_16 : decode cX5_go 16 = .ok (.iaload, 1) := by decide +kernel
theorem dX5_go_17 : decode cX5_go 17 = .ok (.istore_n 3, 1) := by decide +kernel
theorem dX5_go_18 : decode cX5_go 18 = .ok (.aload_n 0, 1) := by decide +kernel
theorem dX5_go_19 : decode cX5_go 19 = .ok (.getfield 27, 3) := by decide +kernel
theorem dX5_go_22 : decode cX5_go 22 = .ok (.getfield 84, 3) := by decide +kernel
theorem dX5_go_25 : decode cX5_go 25 = .ok (.iload_n 1, 1) := by decide +kernel
theorem dX5_go_26 : decode cX5_go 26 = .ok (.iaload, 1) := by decide +kernel
theorem dX5_go_27 : decode cX5_go 27 = .ok (.tableswitch 228 15 23 #[49, 49, 65, 109, 118, 159, 127, 135, 151], 49) := by decide +kernel
theorem dX5_go_76 : decode cX5_go 76 = .ok (.aload_n 0, 1) := by decide +kernel
theorem dX5_go_77 : decode cX5_go 77 = .ok (.aload_n 0, 1) := by decide +kernel
theorem dX5_go_78 : decode cX5_go 78 = .ok (.getfield 27, 3) := by decide +kernel
theorem dX5_go_81 : decode cX5_go 81 = .ok (.getfield 204, 3) := by decide +kernel
theorem dX5_go_84 : decode cX5_go 84 = .ok (.iload_n 3, 1) := by decide +kernel
theorem dX5_go_85 : decode cX5_go 85 = .ok (.iaload, 1) := by decide +kernel
theorem dX5_go_86 : decode cX5_go 86 = .ok (.putfield 81, 3) := by decide +kernel
theorem dX5_go_89 : decode cX5_go 89 = .ok (.goto 166, 3) := by decide +kernel
theorem dX5_go_92 : decode cX5_go 92 = .ok (.aload_n 0, 1) := by decide +kernel
theorem dX5_go_93 : decode cX5_go 93 = .ok (.dup, 1) := by decide +kernel
theorem dX5_go_94 : decode cX5_go 94 = .ok (.getfield 73, 3) := by decide +kernel
theorem dX5_go_97 : decode cX5_go 97 = .ok (.iconst 1, 1) := by decide +kernel
theorem dX5_go_98 : decode cX5_go 98 = .ok (.isub, 1) := by decide +kernel
theorem dX5_go_99 : decode cX5_go 99 = .ok (.putfield 73, 3) := by decide +kernel
theorem dX5_go_102 : decode cX5_go 102 = .ok (.aload_n 0, 1) := by decide +kernel
theorem dX5_go_103 : decode cX5_go 103 = .ok (.aload_n 2, 1) := by decide +kernel
theorem dX5_go_104 : decode cX5_go 104 = .ok (.aload_n 0, 1) := by decide +kernel
theorem dX5_go_105 : decode cX5_go 105 = .ok (.getfield 73, 3) := by decide +kernel
theorem dX5_go_108 : decode cX5_go 108 = .ok (.laload, 1) := by decide +kernel
theorem dX5_go_109 : decode cX5_go 109 = .ok (.lconst 0, 1) := by decide +kernel
theorem dX5_go_110 : decode cX5_go 110 = .ok (.lcmp, 1) := by decide +kernel
theorem dX5_go_111 : decode cX5_go 111 = .ok (.ifCond .ne 15, 3) := by decide +kernel
theorem dX5_go_114 : decode cX5_go 114 = .ok (.aload_n 0, 1) := by decide +kernel
theorem dX5_go_115 : decode cX5_go 115 = .ok (.getfield 27, 3) := by decide +kernel
theorem dX5_go_118 : decode cX5_go 118 = .ok (.getfield 204, 3) := by decide +kernel
theorem dX5_go_121 : decode cX5_go 121 = .ok (.iload_n 3, 1) := by decide +kernel
theorem dX5_go_122 : decode cX5_go 122 = .ok (.iaload, 1) := by decide +kernel
theorem dX5_go_123 : decode cX5_go 123 = .ok (.goto 7, 3) := by decide +kernel
theorem dX5_go_126 : decode cX5_go 126 = .ok (.aload_n 0, 1) := by decide +kernel
theorem dX5_go_127 : decode cX5_go 127 = .ok (.getfield 81, 3) := by decide +kernel
theorem dX5_go_130 : decode cX5_go 130 = .ok (.putfield 81, 3) := by decide +kernel
theorem dX5_go_133 : decode cX5_go 133 = .ok (.goto 122, 3) := by decide +kernel
theorem dX5_go_136 : decode cX5_go 136 = .ok (.aload_n 0, 1) := by decide +kernel
theorem dX5_go_137 : decode cX5_go 137 = .ok (.iload_n 3, 1) := by decide +kernel
theorem dX5_go_138 : decode cX5_go 138 = .ok (.iconst 0, 1) := by decide +kernel
theorem dX5_go_139 : decode cX5_go 139 = .ok (.invokevirtual 207, 3) := by decide +kernel
theorem dX5_go_142 : decode cX5_go 142 = .ok (.goto 113, 3) := by decide +kernel
theorem dX5_go_145 : decode cX5_go 145 = .ok (.aload_n 0, 1) := by decide +kernel
theorem dX5_go_146 : decode cX5_go 146 = .ok (.iload_n 3, 1) := by decide +kernel
theorem dX5_go_147 : decode cX5_go 147 = .ok (.iconst 1, 1) := by decide +kernel
theorem dX5_go_148 : decode cX5_go 148 = .ok (.invokevirtual 207, 3) := by decide +kernel
theorem dX5_go_151 : decode cX5_go 151 = .ok (.goto 104, 3) := by decide +kernel
theorem dX5_go_154 : decode cX5_go 154 = .ok (.aload_n 0, 1) := by decide +kernel
theorem dX5_go_155 : decode cX5_go 155 = .ok (.iload_n 3, 1) := by decide +kernel
theorem dX5_go_156 : decode cX5_go 156 = .ok (.invokevirtual 76, 3) := by decide +kernel
theorem dX5_go_159 : decode cX5_go 159 = .ok (.goto 96, 3) := by decide +kernel
theorem dX5_go_162 : decode cX5_go 162 = .ok (.aload_n 0, 1) := by decide +kernel
theorem dX5_go_163 : decode cX5_go 163 = .ok (.aload_n 0, 1) := by decide +kernel
theorem dX5_go_164 : decode cX5_go 164 = .ok (.getfield 31, 3) := by decide +kernel
theorem dX5_go_167 : decode cX5_go 167 = .ok (.getfield 143, 3) := by decide +kernel
theorem dX5_go_170 : decode cX5_go 170 = .ok (.iload_n 3, 1) := by decide +kernel
theorem dX5_go_171 : decode cX5_go 171 = .ok (.iaload, 1) := by decide +kernel
theorem dX5_go_172 : decode cX5_go 172 = .ok (.invokevirtual 210, 3) := by decide +kernel
theorem dX5_go_175 : decode cX5_go 175 = .ok (.goto 80, 3) := by decide +kernel
theorem dX5_go_178 : decode cX5_go 178 = .ok (.aload_n 0, 1) := by decide +kernel
theorem dX5_go_179 : decode cX5_go 179 = .ok (.invokevirtual 213, 3) := by decide +kernel
theorem dX5_go_182 : decode cX5_go 182 = .ok (.pop, 1) := by decide +kernel
theorem dX5_go_183 : decode cX5_go 183 = .ok (.goto 72, 3) := by decide +kernel
theorem dX5_go_186 : decode cX5_go 186 = .ok (.aload_n 0, 1) := by decide +kernel
theorem dX5_go_187 : decode cX5_go 187 = .ok (.getfield 27, 3) := by decide +kernel
theorem dX5_go_190 : decode cX5_go 190 = .ok (.getfield 124, 3) := by decide +kernel
theorem dX5_go_193 : decode cX5_go 193 = .ok (.iload_n 1, 1) := by decide +kernel
theorem dX5_go_194 : decode cX5_go 194 = .ok (.iaload, 1) := by decide +kernel
theorem dX5_go_195 : decode cX5_go 195 = .ok (.istore 4, 2) := by decide +kernel
theorem dX5_go_197 : decode cX5_go 197 = .ok (.iload 4, 2) := by decide +kernel
theorem dX5_go_199 : decode cX5_go 199 = .ok (.ifCond .ne 17, 3) := by decide +kernel
theorem dX5_go_202 : decode cX5_go 202 = .ok (.aload_n 2, 1) := by decide +kernel
theorem dX5_go_203 : decode cX5_go 203 = .ok (.aload_n 2, 1) := by decide +kernel
theorem dX5_go_204 : decode cX5_go 204 = .ok (.aload_n 0, 1) := by decide +kernel
theorem dX5_go_205 : decode cX5_go 205 = .ok (.getfield 73, 3) := by decide +kernel
theorem dX5_go_208 : decode cX5_go 208 = .ok (.iconst 1, 1) := by decide +kernel
theorem dX5_go_209 : decode cX5_go 209 = .ok (.isub, 1) := by decide +kernel
theorem dX5_go_210 : decode cX5_go 210 = .ok (.laload, 1) := by decide +kernel
theorem dX5_go_211 : decode cX5_go 211 = .ok (.l2i, 1) := by decide +kernel
theorem dX5_go_212 : decode cX5_go 212 = .ok (.laload, 1) := by decide +kernel
theorem dX5_go_213 : decode cX5_go 213 = .ok (.goto 12, 3) := by decide +kernel
theorem dX5_go_216 : decode cX5_go 216 = .ok (.aload_n 2, 1) := by decide +kernel
theorem dX5_go_217 : decode cX5_go 217 = .ok (.aload_n 0, 1) := by decide +kernel
theorem dX5_go_218 : decode cX5_go 218 = .ok (.getfield 73, 3) := by decide +kernel
theorem dX5_go_221 : decode cX5_go 221 = .ok (.iload 4, 2) := by decide +kernel
theorem dX5_go_223 : decode cX5_go 223 = .ok (.isub, 1) := by decide +kernel
theorem dX5_go_224 : decode cX5_go 224 = .ok (.laload, 1) := by decide +kernel
theorem dX5_go_225 : decode cX5_go 225 = .ok (.lstore 5, 2) := by decide +kernel
theorem dX5_go_227 : decode cX5_go 227 = .ok (.aload_n 0, 1) := by decide +kernel
theorem dX5_go_228 : decode cX5_go 228 = .ok (.aload_n 0, 1) := by decide +kernel
theorem dX5_go_229 : decode cX5_go 229 = .ok (.getfield 27, 3) := by decide +kernel
theorem dX5_go_232 : decode cX5_go 232 = .ok (.getfield 204, 3) := by decide +kernel
theorem dX5_go_235 : decode cX5_go 235 = .ok (.aload_n 0, 1) := by decide +kernel
theorem dX5_go_236 : decode cX5_go 236 = .ok (.getfield 27, 3) := by decide +kernel
theorem dX5_go_239 : decode cX5_go 239 = .ok (.getfield 217, 3) := by decide +kernel
theorem dX5_go_242 : decode cX5_go 242 = .ok (.iload_n 3, 1) := by decide +kernel
theorem dX5_go_243 : decode cX5_go 243 = .ok (.lload 5, 2) := by decide +kernel
theorem dX5_go_245 : decode cX5_go 245 = .ok (.l2i, 1) := by decide +kernel
theorem dX5_go_246 : decode cX5_go 246 = .ok (.iadd, 1) := by decide +kernel
theorem dX5_go_247 : decode cX5_go 247 = .ok (.iaload, 1) := by decide +kernel
theorem dX5_go_248 : decode cX5_go 248 = .ok (.iaload, 1) := by decide +kernel
theorem dX5_go_249 : decode cX5_go 249 = .ok (.putfield 81, 3) := by decide +kernel
theorem dX5_go_252 : decode cX5_go 252 = .ok (.goto 3, 3) := by decide +kernel
theorem dX5_go_255 : decode cX5_go 255 = .ok (.return_, 1) := by decide +kernel
theorem dX5_init_0 : decode cX5_init 0 = .ok (.aload_n 0, 1) := by decide +kernel
theorem dX5_init_1 : decode cX5_init 1 = .ok (.invokespecial 3, 3) := by decide +kernel
theorem dX5_init_4 : decode cX5_init 4 = .ok (.aload_n 0, 1) := by decide +kernel
theorem dX5_init_5 : decode cX5_init 5 = .ok (.bipush 60, 2) := by decide +kernel
theorem dX5_init_7 : decode cX5_init 7 = .ok (.anewarray 9, 3) := by decide +kernel
theorem dX5_init_10 : decode cX5_init 10 = .ok (.putfield 11, 3) := by decide +kernel
theorem dX5_init_13 : decode cX5_init 13 = .ok (.aload_n 0, 1) := by decide +kernel
theorem dX5_init_14 : decode cX5_init 14 = .ok (.bipush 60, 2) := by decide +kernel
theorem dX5_init_16 : decode cX5_init 16 = .ok (.newarray .int, 2) := by decide +kernel
theorem dX5_init_18 : decode cX5_init 18 = .ok (.putfield 17, 3) := by decide +kernel
theorem dX5_init_21 : decode cX5_init 21 = .ok (.aload_n 0, 1) := by decide +kernel
theorem dX5_init_22 : decode cX5_init 22 = .ok (.bipush 60, 2) := by decide +kernel
theorem dX5_init_24 : decode cX5_init 24 = .ok (.newarray .int, 2) := by decide +kernel
theorem dX5_init_26 : decode cX5_init 26 = .ok (.putfield 21, 3) := by decide +kernel
theorem dX5_init_29 : decode cX5_init 29 = .ok (.aload_n 0, 1) := by decide +kernel
theorem dX5_init_30 : decode cX5_init 30 = .ok (.sipush 2400, 3) := by decide +kernel
theorem dX5_init_33 : decode cX5_init 33 = .ok (.newarray .int, 2) := by decide +kernel
theorem dX5_init_35 : decode cX5_init 35 = .ok (.putfield 24, 3) := by decide +kernel
theorem dX5_init_38 : decode cX5_init 38 = .ok (.aload_n 0, 1) := by decide +kernel
theorem dX5_init_39 : decode cX5_init 39 = .ok (.aload_n 1, 1) := by decide +kernel
theorem dX5_init_40 : decode cX5_init 40 = .ok (.putfield 27, 3) := by decide +kernel
theorem dX5_init_43 : decode cX5_init 43 = .ok (.aload_n 0, 1) := by decide +kernel
theorem dX5_init_44 : decode cX5_init 44 = .ok (.aload_n 2, 1) := by decide +kernel
theorem dX5_init_45 : decode cX5_init 45 = .ok (.putfield 31, 3) := by decide +kernel
theorem dX5_init_48 : decode cX5_init 48 = .ok (.aload_n 0, 1) := by decide +kernel
theorem dX5_init_49 : decode cX5_init 49 = .ok (.aload_n 3, 1) := by decide +kernel
theorem dX5_init_50 : decode cX5_init 50 = .ok (.putfield 35, 3) := by decide +kernel
theorem dX5_init_53 : decode cX5_init 53 = .ok (.aload_n 0, 1) := by decide +kernel
theorem dX5_init_54 : decode cX5_init 54 = .ok (.aload 4, 2) := by decide +kernel
theorem dX5_init_56 : decode cX5_init 56 = .ok (.putfield 39, 3) := by decide +kernel
theorem dX5_init_59 : decode cX5_init 59 = .ok (.aload_n 0, 1) := by decide +kernel
theorem dX5_init_60 : decode cX5_init 60 = .ok (.aload 5, 2) := by decide +kernel
theorem dX5_init_62 : decode cX5_init 62 = .ok (.putfield 43, 3) := by decide +kernel
theorem dX5_init_65 : decode cX5_init 65 = .ok (.aload_n 0, 1) := by decide +kernel
theorem dX5_init_66 : decode cX5_init 66 = .ok (.aload 6, 2) := by decide +kernel
theorem dX5_init_68 : decode cX5_init 68 = .ok (.putfield 47, 3) := by decide +kernel
theorem dX5_init_71 : decode cX5_init 71 = .ok (.return_, 1) := by decide +kernel
theorem dX5_isBeyond_0 : decode cX5_isBeyond 0 = .ok (.iload_n 0, 1) := by decide +kernel
theorem dX5_isBeyond_1 : decode cX5_isBeyond 1 = .ok (.tableswitch 120 42 45 #[76, 31, 120, 56], 31) := by decide +kernel
theorem dX5_isBeyond_32 : decode cX5_isBeyond 32 = .ok (.lload_n 1, 1) := by decide +kernel
theorem dX5_isBeyond_33 : decode cX5_isBeyond 33 = .ok (.lload_n 3, 1) := by decide +kernel
theorem dX5_isBeyond_34 : decode cX5_isBeyond 34 = .ok (.ladd, 1) := by decide +kernel
theorem dX5_isBeyond_35 : decode cX5_isBeyond 35 = .ok (.lstore 5, 2) := by decide +kernel
theorem dX5_isBeyond_37 : decode cX5_isBeyond 37 = .ok (.lload_n 1, 1) := by decide +kernel
theorem dX5_isBeyond_38 : decode cX5_isBeyond 38 = .ok (.lload 5, 2) := by decide +kernel
theorem dX5_isBeyond_40 : decode cX5_isBeyond 40 = .ok (.lxor, 1) := by decide +kernel
theorem dX5_isBeyond_41 : decode cX5_isBeyond 41 = .ok (.lload_n 3, 1) := by decide +kernel
theorem dX5_isBeyond_42 : decode cX5_isBeyond 42 = .ok (.lload 5, 2) := by decide +kernel
theorem dX5_isBeyond_44 : decode cX5_isBeyond 44 = .ok (.lxor, 1) := by decide +kernel
theorem dX5_isBeyond_45 : decode cX5_isBeyond 45 = .ok (.land, 1) := by decide +kernel
theorem dX5_isBeyond_46 : decode cX5_isBeyond 46 = .ok (.lconst 0, 1) := by decide +kernel
theorem dX5_isBeyond_47 : decode cX5_isBeyond 47 = .ok (.lcmp, 1) := by decide +kernel
theorem dX5_isBeyond_48 : decode cX5_isBeyond 48 = .ok (.ifCond .ge 7, 3) := by decide +kernel
theorem dX5_isBeyond_51 : decode cX5_isBeyond 51 = .ok (.iconst 1, 1) := by decide +kernel
theorem dX5_isBeyond_52 : decode cX5_isBeyond 52 = .ok (.goto 4, 3) := by decide +kernel
theorem dX5_isBeyond_55 : decode cX5_isBeyond 55 = .ok (.iconst 0, 1) := by decide +kernel
theorem dX5_isBeyond_56 : decode cX5_isBeyond 56 = .ok (.ireturn, 1) := by decide +kernel
theorem dX5_isBeyond_57 : decode cX5_isBeyond 57 = .ok (.lload_n 1, 1) := by decide +kernel
theorem dX5_isBeyond_58 : decode cX5_isBeyond 58 = .ok (.lload_n 3, 1) := by decide +kernel
theorem dX5_isBeyond_59 : decode cX5_isBeyond 59 = .ok (.lxor, 1) := by decide +kernel
theorem dX5_isBeyond_60 : decode cX5_isBeyond 60 = .ok (.lload_n 1, 1) := by decide +kernel
theorem dX5_isBeyond_61 : decode cX5_isBeyond 61 = .ok (.lload_n 1, 1) := by decide +kernel
theorem dX5_isBeyond_62 : decode cX5_isBeyond 62 = .ok (.lload_n 3, 1) := by decide +kernel
theorem dX5_isBeyond_63 : decode cX5_isBeyond 63 = .ok (.lsub, 1) := by decide +kernel
theorem dX5_isBeyond_64 : decode cX5_isBeyond 64 = .ok (.lxor, 1) := by decide +kernel
theorem dX5_isBeyond_65 : decode cX5_isBeyond 65 = .ok (.land, 1) := by decide +kernel
theorem dX5_isBeyond_66 : decode cX5_isBeyond 66 = .ok (.lconst 0, 1) := by decide +kernel
theorem dX5_isBeyond_67 : decode cX5_isBeyond 67 = .ok (.lcmp, 1) := by decide +kernel
theorem dX5_isBeyond_68 : decode cX5_isBeyond 68 = .ok (.ifCond .ge 7, 3) := by decide +kernel
theorem dX5_isBeyond_71 : decode cX5_isBeyond 71 = .ok (.iconst 1, 1) := by decide +kernel
theorem dX5_isBeyond_72 : decode cX5_isBeyond 72 = .ok (.goto 4, 3) := by decide +kernel
theorem dX5_isBeyond_75 : decode cX5_isBeyond 75 = .ok (.iconst 0, 1) := by decide +kernel
theorem dX5_isBeyond_76 : decode cX5_isBeyond 76 = .ok (.ireturn, 1) := by decide +kernel
theorem dX5_isBeyond_77 : decode cX5_isBeyond 77 = .ok (.lload_n 1, 1) := by decide +kernel
theorem dX5_isBeyond_78 : decode cX5_isBeyond 78 = .ok (.ldc2_w 202, 3) := by decide +kernel
theorem dX5_isBeyond_81 : decode cX5_isBeyond 81 = .ok (.lcmp, 1) := by decide +kernel
theorem dX5_isBeyond_82 : decode cX5_isBeyond 82 = .ok (.ifCond .ne 17, 3) := by decide +kernel
theorem dX5_isBeyond_85 : decode cX5_isBeyond 85 = .ok (.lload_n 3, 1) := by decide +kernel
theorem dX5_isBeyond_86 : decode cX5_isBeyond 86 = .ok (.ldc2_w 170, 3) := by decide +kernel
theorem dX5_isBeyond_89 : decode cX5_isBeyond 89 = .ok (.lcmp, 1) := by decide +kernel
theorem dX5_isBeyond_90 : decode cX5_isBeyond 90 = .ok (.ifCond .ne 7, 3) := by decide +kernel
theorem dX5_isBeyond_93 : decode cX5_isBeyond 93 = .ok (.iconst 1, 1) := by decide +kernel
theorem dX5_isBeyond_94 : decode cX5_isBeyond 94 = .ok (.goto 4, 3) := by decide +kernel
theorem dX5_isBeyond_97 : decode cX5_isBeyond 97 = .ok (.iconst 0, 1) := by decide +kernel
theorem dX5_isBeyond_98 : decode cX5_isBeyond 98 = .ok (.ireturn, 1) := by decide +kernel
theorem dX5_isBeyond_99 : decode cX5_isBeyond 99 = .ok (.lload_n 1, 1) := by decide +kernel
theorem dX5_isBeyond_100 : decode cX5_isBeyond 100 = .ok (.lconst 0, 1) := by decide +kernel
theorem dX5_isBeyond_101 : decode cX5_isBeyond 101 = .ok (.lcmp, 1) := by decide +kernel
theorem dX5_isBeyond_102 : decode cX5_isBeyond 102 = .ok (.ifCond .eq 17, 3) := by decide +kernel
theorem dX5_isBeyond_105 : decode cX5_isBeyond 105 = .ok (.lload_n 1, 1) := by decide +kernel
theorem dX5_isBeyond_106 : decode cX5_isBeyond 106 = .ok (.lload_n 3, 1) := by decide +kernel
theorem dX5_isBeyond_107 : decode cX5_isBeyond 107 = .ok (.lmul, 1) := by decide +kernel
theorem dX5_isBeyond_108 : decode cX5_isBeyond 108 = .ok (.lload_n 1, 1) := by decide +kernel
theorem dX5_isBeyond_109 : decode cX5_isBeyond 109 = .ok (.ldiv, 1) := by decide +kernel
theorem dX5_isBeyond_110 : decode cX5_isBeyond 110 = .ok (.lload_n 3, 1) := by decide +kernel
theorem dX5_isBeyond_111 : decode cX5_isBeyond 111 = .ok (.lcmp, 1) := by decide +kernel
theorem dX5_isBeyond_112 : decode cX5_isBeyond 112 = .ok (.ifCond .eq 7, 3) := by decide +kernel
theorem dX5_isBeyond_115 : decode cX5_isBeyond 115 = .ok (.iconst 1, 1) := by decide +kernel
theorem dX5_isBeyond_116 : decode cX5_isBeyond 116 = .ok (.goto 4, 3) := by decide +kernel
theorem dX5_isBeyond_119 : decode cX5_isBeyond 119 = .ok (.iconst 0, 1) := by decide +kernel
theorem dX5_isBeyond_120 : decode cX5_isBeyond 120 = .ok (.ireturn, 1) := by decide +kernel
theorem dX5_isBeyond_121 : decode cX5_isBeyond 121 = .ok (.lload_n 3, 1) := by decide +kernel
theorem dX5_isBeyond_122 : decode cX5_isBeyond 122 = .ok (.lconst 0, 1) := by decide +kernel
theorem dX5_isBeyond_123 : decode cX5_isBeyond 123 = .ok (.lcmp, 1) := by decide +kernel
theorem dX5_isBeyond_124 : decode cX5_isBeyond 124 = .ok (.ifCond .eq 19, 3) := by decide +kernel
theorem dX5_isBeyond_127 : decode cX5_isBeyond 127 = .ok (.lload_n 1, 1) := by decide +kernel
theorem dX5_isBeyond_128 : decode cX5_isBeyond 128 = .ok (.ldc2_w 170, 3) := by decide +kernel
theorem dX5_isBeyond_131 : decode cX5_isBeyond 131 = .ok (.lcmp, 1) := by decide +kernel
theorem dX5_isBeyond_132 : decode cX5_isBeyond 132 = .ok (.ifCond .ne 15, 3) := by decide +kernel
theorem dX5_isBeyond_135 : decode cX5_isBeyond 135 = .ok (.lload_n 3, 1) := by decide +kernel
theorem dX5_isBeyond_136 : decode cX5_isBeyond 136 = .ok (.ldc2_w 202, 3) := by decide +kernel
theorem dX5_isBeyond_139 : decode cX5_isBeyond 139 = .ok (.lcmp, 1) := by decide +kernel
theorem dX5_isBeyond_140 : decode cX5_isBeyond 140 = .ok (.ifCond .ne 7, 3) := by decide +kernel
theorem dX5_isBeyond_143 : decode cX5_isBeyond 143 = .ok (.iconst 1, 1) := by decide +kernel
theorem dX5_isBeyond_144 : decode cX5_isBeyond 144 = .ok (.goto 4, 3) := by decide +kernel
theorem dX5_isBeyond_147 : decode cX5_isBeyond 147 = .ok (.iconst 0, 1) := by decide +kernel
theorem dX5_isBeyond_148 : decode cX5_isBeyond 148 = .ok (.ireturn, 1) := by decide +kernel
theorem dX5_move_0 : decode cX5_move 0 = .ok (.aload_n 0, 1) := by decide +kernel
theorem dX5_move_1 : decode cX5_move 1 = .ok (.iload_n 1, 1) := by decide +kernel
theorem dX5_move_2 : decode cX5_move 2 = .ok (.invokevirtual 139, 3) := by decide +kernel
theorem dX5_move_5 : decode cX5_move 5 = .ok (.istore_n 2, 1) := by decide +kernel
theorem dX5_move_6 : decode cX5_move 6 = .ok (.aload_n 0, 1) := by decide +kernel
theorem dX5_move_7 : decode cX5_move 7 = .ok (.getfield 31, 3) := by decide +kernel
theorem dX5_move_10 : decode cX5_move 10 = .ok (.getfield 143, 3) := by decide +kernel
theorem dX5_move_13 : decode cX5_move 13 = .ok (.aload_n 0, 1) := by decide +kernel
theorem dX5_move_14 : decode cX5_move 14 = .ok (.getfield 27, 3) := by decide +kernel
theorem dX5_move_17 : decode cX5_move 17 = .ok (.getfield 148, 3) := by decide +kernel
theorem dX5_move_20 : decode cX5_move 20 = .ok (.iload_n 1, 1) := by decide +kernel
theorem dX5_move_21 : decode cX5_move 21 = .ok (.iaload, 1) := by decide +kernel
theorem dX5_move_22 : decode cX5_move 22 = .ok (.iaload, 1) := by decide +kernel
theorem dX5_move_23 : decode cX5_move 23 = .ok (.istore_n 3, 1) := by decide +kernel
theorem dX5_move_24 : decode cX5_move 24 = .ok (.aload_n 0, 1) := by decide +kernel
theorem dX5_move_25 : decode cX5_move 25 = .ok (.iload_n 2, 1) := by decide +kernel
theorem dX5_move_26 : decode cX5_move 26 = .ok (.iload_n 3, 1) := by decide +kernel
theorem dX5_move_27 : decode cX5_move 27 = .ok (.invokevirtual 151, 3) := by decide +kernel
theorem dX5_move_30 : decode cX5_move 30 = .ok (.aload_n 0, 1) := by decide +kernel
theorem dX5_move_31 : decode cX5_move 31 = .ok (.getfield 24, 3) := by decide +kernel
theorem dX5_move_34 : decode cX5_move 34 = .ok (.aload_n 0, 1) := by decide +kernel
theorem dX5_move_35 : decode cX5_move 35 = .ok (.getfield 175, 3) := by decide +kernel
theorem dX5_move_38 : decode cX5_move 38 = .ok (.aload_n 0, 1) := by decide +kernel
theorem dX5_move_39 : decode cX5_move 39 = .ok (.getfield 27, 3) := by decide +kernel
theorem dX5_move_42 : decode cX5_move 42 = .ok (.getfield 118, 3) := by decide +kernel
theorem dX5_move_45 : decode cX5_move 45 = .ok (.iload_n 1, 1) := by decide +kernel
theorem dX5_move_46 : decode cX5_move 46 = .ok (.iaload, 1) := by decide +kernel
theorem dX5_move_47 : decode cX5_move 47 = .ok (.iadd, 1) := by decide +kernel
theorem dX5_move_48 : decode cX5_move 48 = .ok (.dup2, 1) := by decide +kernel
theorem dX5_move_49 : decode cX5_move 49 = .ok (.iaload, 1) := by decide +kernel
theorem dX5_move_50 : decode cX5_move 50 = .ok (.aload_n 0, 1) := by decide +kernel
theorem dX5_move_51 : decode cX5_move 51 = .ok (.getfield 27, 3) := by decide +kernel
theorem dX5_move_54 : decode cX5_move 54 = .ok (.getfield 178, 3) := by decide +kernel
theorem dX5_move_57 : decode cX5_move 57 = .ok (.iload_n 1, 1) := by decide +kernel
theorem dX5_move_58 : decode cX5_move 58 = .ok (.iaload, 1) := by decide +kernel
theorem dX5_move_59 : decode cX5_move 59 = .ok (.iconst (-1), 1) := by decide +kernel
theorem dX5_move_60 : decode cX5_move 60 = .ok (.ixor, 1) := by decide +kernel
theorem dX5_move_61 : decode cX5_move 61 = .ok (.iand, 1) := by decide +kernel
theorem dX5_move_62 : decode cX5_move 62 = .ok (.iastore, 1) := by decide +kernel
theorem dX5_move_63 : decode cX5_move 63 = .ok (.aload_n 0, 1) := by decide +kernel
theorem dX5_move_64 : decode cX5_move 64 = .ok (.getfield 27, 3) := by decide +kernel
theorem dX5_move_67 : decode cX5_move 67 = .ok (.iload_n 1, 1) := by decide +kernel
theorem dX5_move_68 : decode cX5_move 68 = .ok (.invokevirtual 181, 3) := by decide +kernel
theorem dX5_move_71 : decode cX5_move 71 = .ok (.ifCond .eq 12, 3) := by decide +kernel
theorem dX5_move_74 : decode cX5_move 74 = .ok (.aload_n 0, 1) := by decide +kernel
theorem dX5_move_75 : decode cX5_move 75 = .ok (.getfield 39, 3) := by decide +kernel
theorem dX5_move_78 : decode cX5_move 78 = .ok (.iload_n 2, 1) := by decide +kernel
theorem dX5_move_79 : decode cX5_move 79 = .ok (.iload_n 3, 1) := by decide +kernel
theorem dX5_move_80 : decode cX5_move 80 = .ok (.invokevirtual 185, 3) := by decide +kernel
theorem dX5_move_83 : decode cX5_move 83 = .ok (.return_, 1) := by decide +kernel
theorem dX5_operate_0 : decode cX5_operate 0 = .ok (.aload_n 0, 1) := by decide +kernel
theorem dX5_operate_1 : decode cX5_operate 1 = .ok (.getfield 39, 3) := by decide +kernel
theorem dX5_operate_4 : decode cX5_operate 4 = .ok (.getfield 98, 3) := by decide +kernel
theorem dX5_operate_7 : decode cX5_operate 7 = .ok (.aload_n 0, 1) := by decide +kernel
theorem dX5_operate_8 : decode cX5_operate 8 = .ok (.getfield 73, 3) := by decide +kernel
theorem dX5_operate_11 : decode cX5_operate 11 = .ok (.iconst 1, 1) := by decide +kernel
theorem dX5_operate_12 : decode cX5_operate 12 = .ok (.isub, 1) := by decide +kernel
theorem dX5_operate_13 : decode cX5_operate 13 = .ok (.laload, 1) := by decide +kernel
theorem dX5_operate_14 : decode cX5_operate 14 = .ok (.lstore_n 2, 1) := by decide +kernel
theorem dX5_operate_15 : decode cX5_operate 15 = .ok (.aload_n 0, 1) := by decide +kernel
theorem dX5_operate_16 : decode cX5_operate 16 = .ok (.getfield 39, 3) := by decide +kernel
theorem dX5_operate_19 : decode cX5_operate 19 = .ok (.getfield 98, 3) := by decide +kernel
theorem dX5_operate_22 : decode cX5_operate 22 = .ok (.aload_n 0, 1) := by decide +kernel
theorem dX5_operate_23 : decode cX5_operate 23 = .ok (.getfield 73, 3) := by decide +kernel
theorem dX5_operate_26 : decode cX5_operate 26 = .ok (.iconst 2, 1) := by decide +kernel
theorem dX5_operate_27 : decode cX5_operate 27 = .ok (.isub, 1) := by decide +kernel
theorem dX5_operate_28 : decode cX5_operate 28 = .ok (.laload, 1) := by decide +kernel
theorem dX5_operate_29 : decode cX5_operate 29 = .ok (.lstore 4, 2) := by decide +kernel
theorem dX5_operate_31 : decode cX5_operate 31 = .ok (.iload_n 1, 1) := by decide +kernel
theorem dX5_operate_32 : decode cX5_operate 32 = .ok (.invokestatic 191, 3) := by decide +kernel
theorem dX5_operate_35 : decode cX5_operate 35 = .ok (.iconst 3, 1) := by decide +kernel
theorem dX5_operate_36 : decode cX5_operate 36 = .ok (.if_icmp .le 20, 3) := by decide +kernel
theorem dX5_operate_39 : decode cX5_operate 39 = .ok (.iload_n 1, 1) := by decide +kernel
theorem dX5_operate_40 : decode cX5_operate 40 = .ok (.lload 4, 2) := by decide +kernel
theorem dX5_operate_42 : decode cX5_operate 42 = .ok (.lload_n 2, 1) := by decide +kernel
theorem dX5_operate_43 : decode cX5_operate 43 = .ok (.invokestatic 194, 3) := by decide +kernel
theorem dX5_operate_46 : decode cX5_operate 46 = .ok (.ifCond .eq 10, 3) := by decide +kernel
theorem dX5_operate_49 : decode cX5_operate 49 = .ok (.aload_n 0, 1) := by decide +kernel
theorem dX5_operate_50 : decode cX5_operate 50 = .ok (.bipush 7, 2) := by decide +kernel
theorem dX5_operate_52 : decode cX5_operate 52 = .ok (.invokevirtual 172, 3) := by decide +kernel
theorem dX5_operate_55 : decode cX5_operate 55 = .ok (.return_, 1) := by decide +kernel
theorem dX5_operate_56 : decode cX5_operate 56 = .ok (.aload_n 0, 1) := by decide +kernel
theorem dX5_operate_57 : decode cX5_operate 57 = .ok (.dup, 1) := by decide +kernel
theorem dX5_operate_58 : decode cX5_operate 58 = .ok (.getfield 73, 3) := by decide +kernel
theorem dX5_operate_61 : decode cX5_operate 61 = .ok (.iconst 1, 1) := by decide +kernel
theorem dX5_operate_62 : decode cX5_operate 62 = .ok (.isub, 1) := by decide +kernel
theorem dX5_operate_63 : decode cX5_operate 63 = .ok (.putfield 73, 3) := by decide +kernel
theorem dX5_operate_66 : decode cX5_operate 66 = .ok (.aload_n 0, 1) := by decide +kernel
theorem dX5_operate_67 : decode cX5_operate 67 = .ok (.getfield 39, 3) := by decide +kernel
theorem dX5_operate_70 : decode cX5_operate 70 = .ok (.getfield 98, 3) := by decide +kernel
theorem dX5_operate_73 : decode cX5_operate 73 = .ok (.aload_n 0, 1) := by decide +kernel
theorem dX5_operate_74 : decode cX5_operate 74 = .ok (.getfield 73, 3) := by decide +kernel
theorem dX5_operate_77 : decode cX5_operate 77 = .ok (.iconst 1, 1) := by decide +kernel
theorem dX5_operate_78 : decode cX5_operate 78 = .ok (.isub, 1) := by decide +kernel
theorem dX5_operate_79 : decode cX5_operate 79 = .ok (.iload_n 1, 1) := by decide +kernel
theorem dX5_operate_80 : decode cX5_operate 80 = .ok (.lload 4, 2) := by decide +kernel
theorem dX5_operate_82 : decode cX5_operate 82 = .ok (.lload_n 2, 1) := by decide +kernel
theorem dX5_operate_83 : decode cX5_operate 83 = .ok (.invokestatic 198, 3) := by decide +kernel
theorem dX5_operate_86 : decode cX5_operate 86 = .ok (.lastore, 1) := by decide +kernel
theorem dX5_operate_87 : decode cX5_operate 87 = .ok (.return_, 1) := by decide +kernel
theorem dX5_popTo_0 : decode cX5_popTo 0 = .ok (.aload_n 0, 1) := by decide +kernel
theorem dX5_popTo_1 : decode cX5_popTo 1 = .ok (.dup, 1) := by decide +kernel
theorem dX5_popTo_2 : decode cX5_popTo 2 = .ok (.getfield 73, 3) := by decide +kernel
theorem dX5_popTo_5 : decode cX5_popTo 5 = .ok (.iload_n 2, 1) := by decide +kernel
theorem dX5_popTo_6 : decode cX5_popTo 6 = .ok (.isub, 1) := by decide +kernel
theorem dX5_popTo_7 : decode cX5_popTo 7 = .ok (.putfield 73, 3) := by decide +kernel
theorem dX5_popTo_10 : decode cX5_popTo 10 = .ok (.aload_n 0, 1) := by decide +kernel
theorem dX5_popTo_11 : decode cX5_popTo 11 = .ok (.getfield 39, 3) := by decide +kernel
theorem dX5_popTo_14 : decode cX5_popTo 14 = .ok (.getfield 98, 3) := by decide +kernel
theorem dX5_popTo_17 : decode cX5_popTo 17 = .ok (.aload_n 0, 1) := by decide +kernel
theorem dX5_popTo_18 : decode cX5_popTo 18 = .ok (.getfield 73, 3) := by decide +kernel
theorem dX5_popTo_21 : decode cX5_popTo 21 = .ok (.aload_n 0, 1) := by decide +kernel
theorem dX5_popTo_22 : decode cX5_popTo 22 = .ok (.getfield 39, 3) := by decide +kernel
theorem dX5_popTo_25 : decode cX5_popTo 25 = .ok (.getfield 98, 3) := by decide +kernel
theorem dX5_popTo_28 : decode cX5_popTo 28 = .ok (.iload_n 1, 1) := by decide +kernel
theorem dX5_popTo_29 : decode cX5_popTo 29 = .ok (.iload_n 2, 1) := by decide +kernel
theorem dX5_popTo_30 : decode cX5_popTo 30 = .ok (.invokestatic 102, 3) := by decide +kernel
theorem dX5_popTo_33 : decode cX5_popTo 33 = .ok (.return_, 1) := by decide +kernel
theorem dX5_print_0 : decode cX5_print 0 = .ok (.aload_n 0, 1) := by decide +kernel
theorem dX5_print_1 : decode cX5_print 1 = .ok (.dup, 1) := by decide +kernel
theorem dX5_print_2 : decode cX5_print 2 = .ok (.getfield 73, 3) := by decide +kernel
theorem dX5_print_5 : decode cX5_print 5 = .ok (.iconst 1, 1) := by decide +kernel
theorem dX5_print_6 : decode cX5_print 6 = .ok (.isub, 1) := by decide +kernel
theorem dX5_print_7 : decode cX5_print 7 = .ok (.putfield 73, 3) := by decide +kernel
theorem dX5_print_10 : decode cX5_print 10 = .ok (.aload_n 0, 1) := by decide +kernel
theorem dX5_print_11 : decode cX5_print 11 = .ok (.getfield 39, 3) := by decide +kernel
theorem dX5_print_14 : decode cX5_print 14 = .ok (.getfield 98, 3) := by decide +kernel
theorem dX5_print_17 : decode cX5_print 17 = .ok (.aload_n 0, 1) := by decide +kernel
theorem dX5_print_18 : decode cX5_print 18 = .ok (.getfield 73, 3) := by decide +kernel
theorem dX5_print_21 : decode cX5_print 21 = .ok (.laload, 1) := by decide +kernel
theorem dX5_print_22 : decode cX5_print 22 = .ok (.lstore_n 2, 1) := by decide +kernel
theorem dX5_print_23 : decode cX5_print 23 = .ok (.iload_n 1, 1) := by decide +kernel
theorem dX5_print_24 : decode cX5_print 24 = .ok (.iconst 1, 1) := by decide +kernel
theorem dX5_print_25 : decode cX5_print 25 = .ok (.if_icmp .ne 14, 3) := by decide +kernel
theorem dX5_print_28 : decode cX5_print 28 = .ok (.aload_n 0, 1) := by decide +kernel
theorem dX5_print_29 : decode cX5_print 29 = .ok (.getfield 47, 3) := by decide +kernel
theorem dX5_print_32 : decode cX5_print 32 = .ok (.lload_n 2, 1) := by decide +kernel
theorem dX5_print_33 : decode cX5_print 33 = .ok (.invokevirtual 271, 3) := by decide +kernel
theorem dX5_print_36 : decode cX5_print 36 = .ok (.goto 25, 3) := by decide +kernel
theorem dX5_print_39 : decode cX5_print 39 = .ok (.aload_n 0, 1) := by decide +kernel
theorem dX5_print_40 : decode cX5_print 40 = .ok (.getfield 47, 3) := by decide +kernel
theorem dX5_print_43 : decode cX5_print 43 = .ok (.lload_n 2, 1) := by decide +kernel
theorem dX5_print_44 : decode cX5_print 44 = .ok (.lconst 1, 1) := by decide +kernel
theorem dX5_print_45 : decode cX5_print 45 = .ok (.lcmp, 1) := by decide +kernel
theorem dX5_print_46 : decode cX5_print 46 = .ok (.ifCond .ne 9, 3) := by decide +kernel
theorem dX5_print_49 : decode cX5_print 49 = .ok (.ldc_w 274, 3) := by decide +kernel
theorem dX5_print_52 : decode cX5_print 52 = .ok (.goto 6, 3) := by decide +kernel
theorem dX5_print_55 : decode cX5_print 55 = .ok (.ldc_w 276, 3) := by decide +kernel
theorem dX5_print_58 : decode cX5_print 58 = .ok (.invokevirtual 278, 3) := by decide +kernel
theorem dX5_print_61 : decode cX5_print 61 = .ok (.aload_n 0, 1) := by decide +kernel
theorem dX5_print_62 : decode cX5_print 62 = .ok (.getfield 47, 3) := by decide +kernel
theorem dX5_print_65 : decode cX5_print 65 = .ok (.ldc2_w 282, 3) := by decide +kernel
theorem dX5_print_68 : decode cX5_print 68 = .ok (.invokevirtual 284, 3) := by decide +kernel
theorem dX5_print_71 : decode cX5_print 71 = .ok (.pop, 1) := by decide +kernel
theorem dX5_print_72 : decode cX5_print 72 = .ok (.return_, 1) := by decide +kernel
theorem dX5_push_0 : decode cX5_push 0 = .ok (.aload_n 0, 1) := by decide +kernel
theorem dX5_push_1 : decode cX5_push 1 = .ok (.getfield 39, 3) := by decide +kernel
theorem dX5_push_4 : decode cX5_push 4 = .ok (.getfield 98, 3) := by decide +kernel
theorem dX5_push_7 : decode cX5_push 7 = .ok (.aload_n 0, 1) := by decide +kernel
theorem dX5_push_8 : decode cX5_push 8 = .ok (.getfield 73, 3) := by decide +kernel
theorem dX5_push_11 : decode cX5_push 11 = .ok (.lload_n 1, 1) := by decide +kernel
theorem dX5_push_12 : decode cX5_push 12 = .ok (.lastore, 1) := by decide +kernel
theorem dX5_push_13 : decode cX5_push 13 = .ok (.aload_n 0, 1) := by decide +kernel
theorem dX5_push_14 : decode cX5_push 14 = .ok (.dup, 1) := by decide +kernel
theorem dX5_push_15 : decode cX5_push 15 = .ok (.getfield 73, 3) := by decide +kernel
theorem dX5_push_18 : decode cX5_push 18 = .ok (.iconst 1, 1) := by decide +kernel
theorem dX5_push_19 : decode cX5_push 19 = .ok (.iadd, 1) := by decide +kernel
theorem dX5_push_20 : decode cX5_push 20 = .ok (.putfield 73, 3) := by decide +kernel
theorem dX5_push_23 : decode cX5_push 23 = .ok (.return_, 1) := by decide +kernel
theorem dX5_pushFrom_0 : decode cX5_pushFrom 0 = .ok (.aload_n 0, 1) := by decide +kernel
theorem dX5_pushFrom_1 : decode cX5_pushFrom 1 = .ok (.getfield 39, 3) := by decide +kernel
theorem dX5_pushFrom_4 : decode cX5_pushFrom 4 = .ok (.getfield 98, 3) := by decide +kernel
theorem dX5_pushFrom_7 : decode cX5_pushFrom 7 = .ok (.iload_n 1, 1) := by decide +kernel
theorem dX5_pushFrom_8 : decode cX5_pushFrom 8 = .ok (.aload_n 0, 1) := by decide +kernel
theorem dX5_pushFrom_9 : decode cX5_pushFrom 9 = .ok (.getfield 39, 3) := by decide +kernel
theorem dX5_pushFrom_12 : decode cX5_pushFrom 12 = .ok (.getfield 98, 3) := by decide +kernel
theorem dX5_pushFrom_15 : decode cX5_pushFrom 15 = .ok (.aload_n 0, 1) := by decide +kernel
theorem dX5_pushFrom_16 : decode cX5_pushFrom 16 = .ok (.getfield 73, 3) := by decide +kernel
theorem dX5_pushFrom_19 : decode cX5_pushFrom 19 = .ok (.iload_n 2, 1) := by decide +kernel
theorem dX5_pushFrom_20 : decode cX5_pushFrom 20 = .ok (.invokestatic 102, 3) := by decide +kernel
theorem dX5_pushFrom_23 : decode cX5_pushFrom 23 = .ok (.aload_n 0, 1) := by decide +kernel
theorem dX5_pushFrom_24 : decode cX5_pushFrom 24 = .ok (.dup, 1) := by decide +kernel
theorem dX5_pushFrom_25 : decode cX5_pushFrom 25 = .ok (.getfield 73, 3) := by decide +kernel
theorem dX5_pushFrom_28 : decode cX5_pushFrom 28 = .ok (.iload_n 2, 1) := by decide +kernel
theorem dX5_pushFrom_29 : decode cX5_pushFrom 29 = .ok (.iadd, 1) := by decide +kernel
theorem dX5_pushFrom_30 : decode cX5_pushFrom 30 = .ok (.putfield 73, 3) := by decide +kernel
theorem dX5_pushFrom_33 : decode cX5_pushFrom 33 = .ok (.return_, 1) := by decide +kernel
theorem dX5_resultOf_0 : decode cX5_resultOf 0 = .ok (.iload_n 0, 1) := by decide +kernel
theorem dX5_resultOf_1 : decode cX5_resultOf 1 = .ok (.lookupswitch 191 #[(37, 117), (42, 99), (43, 91), (45, 95), (47, 103), (60, 155), (62, 179), (128, 131), (129, 143), (130, 167)], 91) := by decide +kernel
theorem dX5_resultOf_92 : decode cX5_resultOf 92 = .ok (.lload_n 1, 1) := by decide +kernel
theorem dX5_resultOf_93 : decode cX5_resultOf 93 = .ok (.lload_n 3, 1) := by decide +kernel
theorem dX5_resultOf_94 : decode cX5_resultOf 94 = .ok (.ladd, 1) := by decide +kernel
theorem dX5_resultOf_95 : decode cX5_resultOf 95 = .ok (.lreturn, 1) := by decide +kernel
theorem dX5_resultOf_96 : decode cX5_resultOf 96 = .ok (.lload_n 1, 1) := by decide +kernel
theorem dX5_resultOf_97 : decode cX5_resultOf 97 = .ok (.lload_n 3, 1) := by decide +kernel
theorem dX5_resultOf_98 : decode cX5_resultOf 98 = .ok (.lsub, 1) := by decide +kernel
theorem dX5_resultOf_99 : decode cX5_resultOf 99 = .ok (.lreturn, 1) := by decide +kernel
theorem dX5_resultOf_100 : decode cX5_resultOf 100 = .ok (.lload_n 1, 1) := by decide +kernel
theorem dX5_resultOf_101 : decode cX5_resultOf 101 = .ok (.lload_n 3, 1) := by decide +kernel
theorem dX5_resultOf_102 : decode cX5_resultOf 102 = .ok (.lmul, 1) := by decide +kernel
theorem dX5_resultOf_103 : decode cX5_resultOf 103 = .ok (.lreturn, 1) := by decide +kernel
theorem dX5_resultOf_104 : decode cX5_resultOf 104 = .ok (.lload_n 3, 1) := by decide +kernel
theorem dX5_resultOf_105 : decode cX5_resultOf 105 = .ok (.lconst 0, 1) := by decide +kernel
theorem dX5_resultOf_106 : decode cX5_resultOf 106 = .ok (.lcmp, 1) := by decide +kernel
theorem dX5_resultOf_107 : decode cX5_resultOf 107 = .ok (.ifCond .ne 7, 3) := by decide +kernel
theorem dX5_resultOf_110 : decode cX5_resultOf 110 = .ok (.lconst 0, 1) := by decide +kernel
theorem dX5_resultOf_111 : decode cX5_resultOf 111 = .ok (.goto 6, 3) := by decide +kernel
theorem dX5_resultOf_114 : decode cX5_resultOf 114 = .ok (.lload_n 1, 1) := by decide +kernel
theorem dX5_resultOf_115 : decode cX5_resultOf 115 = .ok (.lload_n 3, 1) := by decide +kernel
theorem dX5_resultOf_116 : decode cX5_resultOf 116 = .ok (.ldiv, 1) := by decide +kernel
theorem dX5_resultOf_117 : decode cX5_resultOf 117 = .ok (.lreturn, 1) := by decide +kernel
theorem dX5_resultOf_118 : decode cX5_resultOf 118 = .ok (.lload_n 3, 1) := by decide +kernel
theorem dX5_resultOf_119 : decode cX5_resultOf 119 = .ok (.lconst 0, 1) := by decide +kernel
theorem dX5_resultOf_120 : decode cX5_resultOf 120 = .ok (.lcmp, 1) := by decide +kernel
theorem dX5_resultOf_121 : decode cX5_resultOf 121 = .ok (.ifCond .ne 7, 3) := by decide +kernel
theorem dX5_resultOf_124 : decode cX5_resultOf 124 = .ok (.lconst 0, 1) := by decide +kernel
theorem dX5_resultOf_125 : decode cX5_resultOf 125 = .ok (.goto 6, 3) := by decide +kernel
theorem dX5_resultOf_128 : decode cX5_resultOf 128 = .ok (.lload_n 1, 1) := by decide +kernel
theorem dX5_resultOf_129 : decode cX5_resultOf 129 = .ok (.lload_n 3, 1) := by decide +kernel
theorem dX5_resultOf_130 : decode cX5_resultOf 130 = .ok (.lrem, 1) := by decide +kernel
theorem dX5_resultOf_131 : decode cX5_resultOf 131 = .ok (.lreturn, 1) := by decide +kernel
theorem dX5_resultOf_132 : decode cX5_resultOf 132 = .ok (.lload_n 1, 1) := by decide +kernel
theorem dX5_resultOf_133 : decode cX5_resultOf 133 = .ok (.lload_n 3, 1) := by decide +kernel
theorem dX5_resultOf_134 : decode cX5_resultOf 134 = .ok (.lcmp, 1) := by decide +kernel
theorem dX5_resultOf_135 : decode cX5_resultOf 135 = .ok (.ifCond .ne 7, 3) := by decide +kernel
theorem dX5_resultOf_138 : decode cX5_resultOf 138 = .ok (.lconst 1, 1) := by decide +kernel
theorem dX5_resultOf_139 : decode cX5_resultOf 139 = .ok (.goto 4, 3) := by decide +kernel
theorem dX5_resultOf_142 : decode cX5_resultOf 142 = .ok (.lconst 0, 1) := by decide +kernel
theorem dX5_resultOf_143 : decode cX5_resultOf 143 = .ok (.lreturn, 1) := by decide +kernel
theorem dX5_resultOf_144 : decode cX5_resultOf 144 = .ok (.lload_n 1, 1) := by decide +kernel
theorem dX5_resultOf_145 : decode cX5_resultOf 145 = .ok (.lload_n 3, 1) := by decide +kernel
theorem dX5_resultOf_146 : decode cX5_resultOf 146 = .ok (.lcmp, 1) := by decide +kernel
theorem dX5_resultOf_147 : decode cX5_resultOf 147 = .ok (.ifCond .eq 7, 3) := by decide +kernel
theorem dX5_resultOf_150 : decode cX5_resultOf 150 = .ok (.lconst 1, 1) := by decide +kernel
theorem dX5_resultOf_151 : decode cX5_resultOf 151 = .ok (.goto 4, 3) := by decide +kernel
theorem dX5_resultOf_154 : decode cX5_resultOf 154 = .ok (.lconst 0, 1) := by decide +kernel
theorem dX5_resultOf_155 : decode cX5_resultOf 155 = .ok (.lreturn, 1) := by decide +kernel
theorem dX5_resultOf_156 : decode cX5_resultOf 156 = .ok (.lload_n 1, 1) := by decide +kernel
theorem dX5_resultOf_157 : decode cX5_resultOf 157 = .ok (.lload_n 3, 1) := by decide +kernel
theorem dX5_resultOf_158 : decode cX5_resultOf 158 = .ok (.lcmp, 1) := by decide +kernel
theorem dX5_resultOf_159 : decode cX5_resultOf 159 = .ok (.ifCond .ge 7, 3) := by decide +kernel
theorem dX5_resultOf_162 : decode cX5_resultOf 162 = .ok (.lconst 1, 1) := by decide +kernel
theorem dX5_resultOf_163 : decode cX5_resultOf 163 = .ok (.goto 4, 3) := by decide +kernel
theorem dX5_resultOf_166 : decode cX5_resultOf 166 = .ok (.lconst 0, 1) := by decide +kernel
theorem dX5_resultOf_167 : decode cX5_resultOf 167 = .ok (.lreturn, 1) := by decide +kernel
theorem dX5_resultOf_168 : decode cX5_resultOf 168 = .ok (.lload_n 1, 1) := by decide +kernel
theorem dX5_resultOf_169 : decode cX5_resultOf 169 = .ok (.lload_n 3, 1) := by decide +kernel
theorem dX5_resultOf_170 : decode cX5_resultOf 170 = .ok (.lcmp, 1) := by decide +kernel
theorem dX5_resultOf_171 : decode cX5_resultOf 171 = .ok (.ifCond .gt 7, 3) := by decide +kernel
theorem dX5_resultOf_174 : decode cX5_resultOf 174 = .ok (.lconst 1, 1) := by decide +kernel
theorem dX5_resultOf_175 : decode cX5_resultOf 175 = .ok (.goto 4, 3) := by decide +kernel
theorem dX5_resultOf_178 : decode cX5_resultOf 178 = .ok (.lconst 0, 1) := by decide +kernel
theorem dX5_resultOf_179 : decode cX5_resultOf 179 = .ok (.lreturn, 1) := by decide +kernel
theorem dX5_resultOf_180 : decode cX5_resultOf 180 = .ok (.lload_n 1, 1) := by decide +kernel
theorem dX5_resultOf_181 : decode cX5_resultOf 181 = .ok (.lload_n 3, 1) := by decide +kernel
theorem dX5_resultOf_182 : decode cX5_resultOf 182 = .ok (.lcmp, 1) := by decide +kernel
theorem dX5_resultOf_183 : decode cX5_resultOf 183 = .ok (.ifCond .le 7, 3) := by decide +kernel
theorem dX5_resultOf_186 : decode cX5_resultOf 186 = .ok (.lconst 1, 1) := by decide +kernel
theorem dX5_resultOf_187 : decode cX5_resultOf 187 = .ok (.goto 4, 3) := by decide +kernel
theorem dX5_resultOf_190 : decode cX5_resultOf 190 = .ok (.lconst 0, 1) := by decide +kernel
theorem dX5_resultOf_191 : decode cX5_resultOf 191 = .ok (.lreturn, 1) := by decide +kernel
theorem dX5_resultOf_192 : decode cX5_resultOf 192 = .ok (.lload_n 1, 1) := by decide +kernel
theorem dX5_resultOf_193 : decode cX5_resultOf 193 = .ok (.lload_n 3, 1) := by decide +kernel
theorem dX5_resultOf_194 : decode cX5_resultOf 194 = .ok (.lcmp, 1) := by decide +kernel
theorem dX5_resultOf_195 : decode cX5_resultOf 195 = .ok (.ifCond .lt 7, 3) := by decide +kernel
theorem dX5_resultOf_198 : decode cX5_resultOf 198 = .ok (.lconst 1, 1) := by decide +kernel
theorem dX5_resultOf_199 : decode cX5_resultOf 199 = .ok (.goto 4, 3) := by decide +kernel
theorem dX5_resultOf_202 : decode cX5_resultOf 202 = .ok (.lconst 0, 1) := by decide +kernel
theorem dX5_resultOf_203 : decode cX5_resultOf 203 = .ok (.lreturn, 1) := by decide +kernel
theorem dX5_shortcut_0 : decode cX5_shortcut 0 = .ok (.aload_n 0, 1) := by decide +kernel
theorem dX5_shortcut_1 : decode cX5_shortcut 1 = .ok (.getfield 39, 3) := by decide +kernel
theorem dX5_shortcut_4 : decode cX5_shortcut 4 = .ok (.getfield 98, 3) := by decide +kernel
theorem dX5_shortcut_7 : decode cX5_shortcut 7 = .ok (.aload_n 0, 1) := by decide +kernel
theorem dX5_shortcut_8 : decode cX5_shortcut 8 = .ok (.getfield 73, 3) := by decide +kernel
theorem dX5_shortcut_11 : decode cX5_shortcut 11 = .ok (.iconst 1, 1) := by decide +kernel
theorem dX5_shortcut_12 : decode cX5_shortcut 12 = .ok (.isub, 1) := by decide +kernel
theorem dX5_shortcut_13 : decode cX5_shortcut 13 = .ok (.laload, 1) := by decide +kernel
theorem dX5_shortcut_14 : decode cX5_shortcut 14 = .ok (.iload_n 2, 1) := by decide +kernel
theorem dX5_shortcut_15 : decode cX5_shortcut 15 = .ok (.i2l, 1) := by decide +kernel
theorem dX5_shortcut_16 : decode cX5_shortcut 16 = .ok (.lcmp, 1) := by decide +kernel
theorem dX5_shortcut_17 : decode cX5_shortcut 17 = .ok (.ifCond .ne 19, 3) := by decide +kernel
theorem dX5_shortcut_20 : decode cX5_shortcut 20 = .ok (.aload_n 0, 1) := by decide +kernel
theorem dX5_shortcut_21 : decode cX5_shortcut 21 = .ok (.aload_n 0, 1) := by decide +kernel
theorem dX5_shortcut_22 : decode cX5_shortcut 22 = .ok (.getfield 27, 3) := by decide +kernel
theorem dX5_shortcut_25 : decode cX5_shortcut 25 = .ok (.getfield 204, 3) := by decide +kernel
theorem dX5_shortcut_28 : decode cX5_shortcut 28 = .ok (.iload_n 1, 1) := by decide +kernel
theorem dX5_shortcut_29 : decode cX5_shortcut 29 = .ok (.iaload, 1) := by decide +kernel
theorem dX5_shortcut_30 : decode cX5_shortcut 30 = .ok (.putfield 81, 3) := by decide +kernel
theorem dX5_shortcut_33 : decode cX5_shortcut 33 = .ok (.goto 13, 3) := by decide +kernel
theorem dX5_shortcut_36 : decode cX5_shortcut 36 = .ok (.aload_n 0, 1) := by decide +kernel
theorem dX5_shortcut_37 : decode cX5_shortcut 37 = .ok (.dup, 1) := by decide +kernel
theorem dX5_shortcut_38 : decode cX5_shortcut 38 = .ok (.getfield 73, 3) := by decide +kernel
theorem dX5_shortcut_41 : decode cX5_shortcut 41 = .ok (.iconst 1, 1) := by decide +kernel
theorem dX5_shortcut_42 : decode cX5_shortcut 42 = .ok (.isub, 1) := by decide +kernel
theorem dX5_shortcut_43 : decode cX5_shortcut 43 = .ok (.putfield 73, 3) := by decide +kernel
theorem dX5_shortcut_46 : decode cX5_shortcut 46 = .ok (.return_, 1) := by decide +kernel
theorem dX5_stop_0 : decode cX5_stop 0 = .ok (.aload_n 0, 1) := by decide +kernel
theorem dX5_stop_1 : decode cX5_stop 1 = .ok (.iload_n 1, 1) := by decide +kernel
theorem dX5_stop_2 : decode cX5_stop 2 = .ok (.putfield 54, 3) := by decide +kernel
theorem dX5_stop_5 : decode cX5_stop 5 = .ok (.aload_n 0, 1) := by decide +kernel
theorem dX5_stop_6 : decode cX5_stop 6 = .ok (.iconst 0, 1) := by decide +kernel
theorem dX5_stop_7 : decode cX5_stop 7 = .ok (.putfield 57, 3) := by decide +kernel
theorem dX5_stop_10 : decode cX5_stop 10 = .ok (.return_, 1) := by decide +kernel
theorem dX5_workOnValues_0 : decode cX5_workOnValues 0 = .ok (.aload_n 0, 1) := by decide +kernel
theorem dX5_workOnValues_1 : decode cX5_workOnValues 1 = .ok (.getfield 39, 3) := by decide +kernel
theorem dX5_workOnValues_4 : decode cX5_workOnValues 4 = .ok (.getfield 98, 3) := by decide +kernel
theorem dX5_workOnValues_7 : decode cX5_workOnValues 7 = .ok (.astore_n 2, 1) := by decide +kernel
theorem dX5_workOnValues_8 : decode cX5_workOnValues 8 = .ok (.aload_n 0, 1) := by decide +kernel
theorem dX5_workOnValues_9 : decode cX5_workOnValues 9 = .ok (.getfield 27, 3) := by decide +kernel
theorem dX5_workOnValues_12 : decode cX5_workOnValues 12 = .ok (.getfield 121, 3) := by decide +kernel
theorem dX5_workOnValues_15 : decode cX5_workOnValues 15 = .ok (.iload_n 1, 1) := by decide +kernel
theorem dX5_workOnValues_16 : decode cX5_workOnValues 16 = .ok (.iaload, 1) := by decide +kernel
theorem dX5_workOnValues_17 : decode cX5_workOnValues 17 = .ok (.istore_n 3, 1) := by decide +kernel
theorem dX5_workOnValues_18 : decode cX5_workOnValues 18 = .ok (.aload_n 0, 1) := by decide +kernel
theorem dX5_workOnValues_19 : decode cX5_workOnValues 19 = .ok (.getfield 27, 3) := by decide +kernel
theorem dX5_workOnValues_22 : decode cX5_workOnValues 22 = .ok (.getfield 124, 3) := by decide +kernel
theorem dX5_workOnValues_25 : decode cX5_workOnValues 25 = .ok (.iload_n 1, 1) := by decide +kernel
theorem dX5_workOnValues_26 : decode cX5_workOnValues 26 = .ok (.iaload, 1) := by decide +kernel
theorem dX5_workOnValues_27 : decode cX5_workOnValues 27 = .ok (.istore 4, 2) := by decide +kernel
theorem dX5_workOnValues_29 : decode cX5_workOnValues 29 = .ok (.aload_n 0, 1) := by decide +kernel
theorem dX5_workOnValues_30 : decode cX5_workOnValues 30 = .ok (.getfield 27, 3) := by decide +kernel
theorem dX5_workOnValues_33 : decode cX5_workOnValues 33 = .ok (.getfield 84, 3) := by decide +kernel
theorem dX5_workOnValues_36 : decode cX5_workOnValues 36 = .ok (.iload_n 1, 1) := by decide +kernel
theorem dX5_workOnValues_37 : decode cX5_workOnValues 37 = .ok (.iaload, 1) := by decide +kernel
theorem dX5_workOnValues_38 : decode cX5_workOnValues 38 = .ok (.tableswitch 296 0 12 #[66, 86, 100, 129, 137, 252, 150, 165, 173, 189, 202, 230, 239], 66) := by decide +kernel
theorem dX5_workOnValues_104 : decode cX5_workOnValues 104 = .ok (.aload_n 0, 1) := by decide +kernel
theorem dX5_workOnValues_105 : decode cX5_workOnValues 105 = .ok (.iload_n 3, 1) := by decide +kernel
theorem dX5_workOnValues_106 : decode cX5_workOnValues 106 = .ok (.i2l, 1) := by decide +kernel
theorem dX5_workOnValues_107 : decode cX5_workOnValues 107 = .ok (.bipush 32, 2) := by decide +kernel
theorem dX5_workOnValues_109 : decode cX5_workOnValues 109 = .ok (.lshl, 1) := by decide +kernel
theorem dX5_workOnValues_110 : decode cX5_workOnValues 110 = .ok (.iload 4, 2) := by decide +kernel
theorem dX5_workOnValues_112 : decode cX5_workOnValues 112 = .ok (.i2l, 1) := by decide +kernel
theorem dX5_workOnValues_113 : decode cX5_workOnValues 113 = .ok (.ldc2_w 127, 3) := by decide +kernel
theorem dX5_workOnValues_116 : decode cX5_workOnValues 116 = .ok (.land, 1) := by decide +kernel
theorem dX5_workOnValues_117 : decode cX5_workOnValues 117 = .ok (.lor, 1) := by decide +kernel
theorem dX5_workOnValues_118 : decode cX5_workOnValues 118 = .ok (.invokevirtual 129, 3) := by decide +kernel
theorem dX5_workOnValues_121 : decode cX5_workOnValues 121 = .ok (.goto 213, 3) := by decide +kernel
theorem dX5_workOnValues_124 : decode cX5_workOnValues 124 = .ok (.aload_n 0, 1) := by decide +kernel
theorem dX5_workOnValues_125 : decode cX5_workOnValues 125 = .ok (.aload_n 0, 1) := by decide +kernel
theorem dX5_workOnValues_126 : decode cX5_workOnValues 126 = .ok (.getfield 43, 3) := by decide +kernel
theorem dX5_workOnValues_129 : decode cX5_workOnValues 129 = .ok (.invokevirtual 133, 3) := by decide +kernel
theorem dX5_workOnValues_132 : decode cX5_workOnValues 132 = .ok (.invokevirtual 129, 3) := by decide +kernel
theorem dX5_workOnValues_135 : decode cX5_workOnValues 135 = .ok (.goto 199, 3) := by decide +kernel
theorem dX5_workOnValues_138 : decode cX5_workOnValues 138 = .ok (.aload_n 0, 1) := by decide +kernel
theorem dX5_workOnValues_139 : decode cX5_workOnValues 139 = .ok (.aload_n 0, 1) := by decide +kernel
theorem dX5_workOnValues_140 : decode cX5_workOnValues 140 = .ok (.iload_n 3, 1) := by decide +kernel
theorem dX5_workOnValues_141 : decode cX5_workOnValues 141 = .ok (.invokevirtual 139, 3) := by decide +kernel
theorem dX5_workOnValues_144 : decode cX5_workOnValues 144 = .ok (.aload_n 0, 1) := by decide +kernel
theorem dX5_workOnValues_145 : decode cX5_workOnValues 145 = .ok (.getfield 31, 3) := by decide +kernel
theorem dX5_workOnValues_148 : decode cX5_workOnValues 148 = .ok (.getfield 143, 3) := by decide +kernel
theorem dX5_workOnValues_151 : decode cX5_workOnValues 151 = .ok (.aload_n 0, 1) := by decide +kernel
theorem dX5_workOnValues_152 : decode cX5_workOnValues 152 = .ok (.getfield 27, 3) := by decide +kernel
theorem dX5_workOnValues_155 : decode cX5_workOnValues 155 = .ok (.getfield 148, 3) := by decide +kernel
theorem dX5_workOnValues_158 : decode cX5_workOnValues 158 = .ok (.iload_n 3, 1) := by decide +kernel
theorem dX5_workOnValues_159 : decode cX5_workOnValues 159 = .ok (.iaload, 1) := by decide +kernel
theorem dX5_workOnValues_160 : decode cX5_workOnValues 160 = .ok (.iaload, 1) := by decide +kernel
theorem dX5_workOnValues_161 : decode cX5_workOnValues 161 = .ok (.invokevirtual 151, 3) := by decide +kernel
theorem dX5_workOnValues_164 : decode cX5_workOnValues 164 = .ok (.goto 170, 3) := by decide +kernel
theorem dX5_workOnValues_167 : decode cX5_workOnValues 167 = .ok (.aload_n 0, 1) := by decide +kernel
theorem dX5_workOnValues_168 : decode cX5_workOnValues 168 = .ok (.iload_n 3, 1) := by decide +kernel
theorem dX5_workOnValues_169 : decode cX5_workOnValues 169 = .ok (.invokevirtual 155, 3) := by decide +kernel
theorem dX5_workOnValues_172 : decode cX5_workOnValues 172 = .ok (.goto 162, 3) := by decide +kernel
theorem dX5_workOnValues_175 : decode cX5_workOnValues 175 = .ok (.aload_n 0, 1) := by decide +kernel
theorem dX5_workOnValues_176 : decode cX5_workOnValues 176 = .ok (.aload_n 0, 1) := by decide +kernel
theorem dX5_workOnValues_177 : decode cX5_workOnValues 177 = .ok (.iload_n 3, 1) := by decide +kernel
theorem dX5_workOnValues_178 : decode cX5_workOnValues 178 = .ok (.invokevirtual 139, 3) := by decide +kernel
theorem dX5_workOnValues_181 : decode cX5_workOnValues 181 = .ok (.i2l, 1) := by decide +kernel
theorem dX5_workOnValues_182 : decode cX5_workOnValues 182 = .ok (.invokevirtual 129, 3) := by decide +kernel
theorem dX5_workOnValues_185 : decode cX5_workOnValues 185 = .ok (.goto 149, 3) := by decide +kernel
theorem dX5_workOnValues_188 : decode cX5_workOnValues 188 = .ok (.aload_n 2, 1) := by decide +kernel
theorem dX5_workOnValues_189 : decode cX5_workOnValues 189 = .ok (.aload_n 0, 1) := by decide +kernel
theorem dX5_workOnValues_190 : decode cX5_workOnValues 190 = .ok (.getfield 73, 3) := by decide +kernel
theorem dX5_workOnValues_193 : decode cX5_workOnValues 193 = .ok (.iconst 1, 1) := by decide +kernel
theorem dX5_workOnValues_194 : decode cX5_workOnValues 194 = .ok (.isub, 1) := by decide +kernel
theorem dX5_workOnValues_195 : decode cX5_workOnValues 195 = .ok (.dup2, 1) := by decide +kernel
theorem dX5_workOnValues_196 : decode cX5_workOnValues 196 = .ok (.laload, 1) := by decide +kernel
theorem dX5_workOnValues_197 : decode cX5_workOnValues 197 = .ok (.lconst 1, 1) := by decide +kernel
theorem dX5_workOnValues_198 : decode cX5_workOnValues 198 = .ok (.lxor, 1) := by decide +kernel
theorem dX5_workOnValues_199 : decode cX5_workOnValues 199 = .ok (.lastore, 1) := by decide +kernel
theorem dX5_workOnValues_200 : decode cX5_workOnValues 200 = .ok (.goto 134, 3) := by decide +kernel
theorem dX5_workOnValues_203 : decode cX5_workOnValues 203 = .ok (.aload_n 0, 1) := by decide +kernel
theorem dX5_workOnValues_204 : decode cX5_workOnValues 204 = .ok (.iload_n 3, 1) := by decide +kernel
theorem dX5_workOnValues_205 : decode cX5_workOnValues 205 = .ok (.invokevirtual 158, 3) := by decide +kernel
theorem dX5_workOnValues_208 : decode cX5_workOnValues 208 = .ok (.goto 126, 3) := by decide +kernel
theorem dX5_workOnValues_211 : decode cX5_workOnValues 211 = .ok (.aload_n 0, 1) := by decide +kernel
theorem dX5_workOnValues_212 : decode cX5_workOnValues 212 = .ok (.aload_n 0, 1) := by decide +kernel
theorem dX5_workOnValues_213 : decode cX5_workOnValues 213 = .ok (.getfield 31, 3) := by decide +kernel
theorem dX5_workOnValues_216 : decode cX5_workOnValues 216 = .ok (.getfield 143, 3) := by decide +kernel
theorem dX5_workOnValues_219 : decode cX5_workOnValues 219 = .ok (.iload_n 3, 1) := by decide +kernel
theorem dX5_workOnValues_220 : decode cX5_workOnValues 220 = .ok (.iaload, 1) := by decide +kernel
theorem dX5_workOnValues_221 : decode cX5_workOnValues 221 = .ok (.invokevirtual 161, 3) := by decide +kernel
theorem dX5_workOnValues_224 : decode cX5_workOnValues 224 = .ok (.goto 110, 3) := by decide +kernel
theorem dX5_workOnValues_227 : decode cX5_workOnValues 227 = .ok (.aload_n 0, 1) := by decide +kernel
theorem dX5_workOnValues_228 : decode cX5_workOnValues 228 = .ok (.dup, 1) := by decide +kernel
theorem dX5_workOnValues_229 : decode cX5_workOnValues 229 = .ok (.getfield 73, 3) := by decide +kernel
theorem dX5_workOnValues_232 : decode cX5_workOnValues 232 = .ok (.iload_n 3, 1) := by decide +kernel
theorem dX5_workOnValues_233 : decode cX5_workOnValues 233 = .ok (.iadd, 1) := by decide +kernel
theorem dX5_workOnValues_234 : decode cX5_workOnValues 234 = .ok (.putfield 73, 3) := by decide +kernel
theorem dX5_workOnValues_237 : decode cX5_workOnValues 237 = .ok (.goto 97, 3) := by decide +kernel
theorem dX5_workOnValues_240 : decode cX5_workOnValues 240 = .ok (.aload_n 0, 1) := by decide +kernel
theorem dX5_workOnValues_241 : decode cX5_workOnValues 241 = .ok (.aload_n 0, 1) := by decide +kernel
theorem dX5_workOnValues_242 : decode cX5_workOnValues 242 = .ok (.getfield 73, 3) := by decide +kernel
theorem dX5_workOnValues_245 : decode cX5_workOnValues 245 = .ok (.iload 4, 2) := by decide +kernel
theorem dX5_workOnValues_247 : decode cX5_workOnValues 247 = .ok (.isub, 1) := by decide +kernel
theorem dX5_workOnValues_248 : decode cX5_workOnValues 248 = .ok (.aload_n 0, 1) := by decide +kernel
theorem dX5_workOnValues_249 : decode cX5_workOnValues 249 = .ok (.getfield 27, 3) := by decide +kernel
theorem dX5_workOnValues_252 : decode cX5_workOnValues 252 = .ok (.getfield 164, 3) := by decide +kernel
theorem dX5_workOnValues_255 : decode cX5_workOnValues 255 = .ok (.iload_n 1, 1) := by decide +kernel
theorem dX5_workOnValues_256 : decode cX5_workOnValues 256 = .ok (.iaload, 1) := by decide +kernel
theorem dX5_workOnValues_257 : decode cX5_workOnValues 257 = .ok (.isub, 1) := by decide +kernel
theorem dX5_workOnValues_258 : decode cX5_workOnValues 258 = .ok (.iload_n 3, 1) := by decide +kernel
theorem dX5_workOnValues_259 : decode cX5_workOnValues 259 = .ok (.iadd, 1) := by decide +kernel
theorem dX5_workOnValues_260 : decode cX5_workOnValues 260 = .ok (.iload 4, 2) := by decide +kernel
theorem dX5_workOnValues_262 : decode cX5_workOnValues 262 = .ok (.invokevirtual 167, 3) := by decide +kernel
theorem dX5_workOnValues_265 : decode cX5_workOnValues 265 = .ok (.goto 69, 3) := by decide +kernel
theorem dX5_workOnValues_268 : decode cX5_workOnValues 268 = .ok (.aload_n 0, 1) := by decide +kernel
theorem dX5_workOnValues_269 : decode cX5_workOnValues 269 = .ok (.iload_n 3, 1) := by decide +kernel
theorem dX5_workOnValues_270 : decode cX5_workOnValues 270 = .ok (.i2l, 1) := by decide +kernel
theorem dX5_workOnValues_271 : decode cX5_workOnValues 271 = .ok (.invokevirtual 129, 3) := by decide +kernel
theorem dX5_workOnValues_274 : decode cX5_workOnValues 274 = .ok (.goto 60, 3) := by decide +kernel
theorem dX5_workOnValues_277 : decode cX5_workOnValues 277 = .ok (.aload_n 0, 1) := by decide +kernel
theorem dX5_workOnValues_278 : decode cX5_workOnValues 278 = .ok (.dup, 1) := by decide +kernel
theorem dX5_workOnValues_279 : decode cX5_workOnValues 279 = .ok (.getfield 73, 3) := by decide +kernel
theorem dX5_workOnValues_282 : decode cX5_workOnValues 282 = .ok (.iload_n 3, 1) := by decide +kernel
theorem dX5_workOnValues_283 : decode cX5_workOnValues 283 = .ok (.iadd, 1) := by decide +kernel
theorem dX5_workOnValues_284 : decode cX5_workOnValues 284 = .ok (.putfield 73, 3) := by decide +kernel
theorem dX5_workOnValues_287 : decode cX5_workOnValues 287 = .ok (.goto 47, 3) := by decide +kernel
theorem dX5_workOnValues_290 : decode cX5_workOnValues 290 = .ok (.aload_n 2, 1) := by decide +kernel
theorem dX5_workOnValues_291 : decode cX5_workOnValues 291 = .ok (.aload_n 0, 1) := by decide +kernel
theorem dX5_workOnValues_292 : decode cX5_workOnValues 292 = .ok (.getfield 73, 3) := by decide +kernel
theorem dX5_workOnValues_295 : decode cX5_workOnValues 295 = .ok (.iconst 1, 1) := by decide +kernel
theorem dX5_workOnValues_296 : decode cX5_workOnValues 296 = .ok (.isub, 1) := by decide +kernel
theorem dX5_workOnValues_297 : decode cX5_workOnValues 297 = .ok (.laload, 1) := by decide +kernel
theorem dX5_workOnValues_298 : decode cX5_workOnValues 298 = .ok (.ldc2_w 170, 3) := by decide +kernel
theorem dX5_workOnValues_301 : decode cX5_workOnValues 301 = .ok (.lcmp, 1) := by decide +kernel
theorem dX5_workOnValues_302 : decode cX5_workOnValues 302 = .ok (.ifCond .ne 12, 3) := by decide +kernel
theorem dX5_workOnValues_305 : decode cX5_workOnValues 305 = .ok (.aload_n 0, 1) := by decide +kernel
theorem dX5_workOnValues_306 : decode cX5_workOnValues 306 = .ok (.bipush 7, 2) := by decide +kernel
theorem dX5_workOnValues_308 : decode cX5_workOnValues 308 = .ok (.invokevirtual 172, 3) := by decide +kernel
theorem dX5_workOnValues_311 : decode cX5_workOnValues 311 = .ok (.goto 23, 3) := by decide +kernel
theorem dX5_workOnValues_314 : decode cX5_workOnValues 314 = .ok (.aload_n 2, 1) := by decide +kernel
theorem dX5_workOnValues_315 : decode cX5_workOnValues 315 = .ok (.aload_n 0, 1) := by decide +kernel
theorem dX5_workOnValues_316 : decode cX5_workOnValues 316 = .ok (.getfield 73, 3) := by decide +kernel
theorem dX5_workOnValues_319 : decode cX5_workOnValues 319 = .ok (.iconst 1, 1) := by decide +kernel
theorem dX5_workOnValues_320 : decode cX5_workOnValues 320 = .ok (.isub, 1) := by decide +kernel
theorem dX5_workOnValues_321 : decode cX5_workOnValues 321 = .ok (.aload_n 2, 1) := by decide +kernel
theorem dX5_workOnValues_322 : decode cX5_workOnValues 322 = .ok (.aload_n 0, 1) := by decide +kernel
theorem dX5_workOnValues_323 : decode cX5_workOnValues 323 = .ok (.getfield 73, 3) := by decide +kernel
theorem dX5_workOnValues_326 : decode cX5_workOnValues 326 = .ok (.iconst 1, 1) := by decide +kernel
theorem dX5_workOnValues_327 : decode cX5_workOnValues 327 = .ok (.isub, 1) := by decide +kernel
theorem dX5_workOnValues_328 : decode cX5_workOnValues 328 = .ok (.laload, 1) := by decide +kernel
theorem dX5_workOnValues_329 : decode cX5_workOnValues 329 = .ok (.lneg, 1) := by decide +kernel
theorem dX5_workOnValues_330 : decode cX5_workOnValues 330 = .ok (.lastore, 1) := by decide +kernel
theorem dX5_workOnValues_331 : decode cX5_workOnValues 331 = .ok (.goto 3, 3) := by decide +kernel
theorem dX5_workOnValues_334 : decode cX5_workOnValues 334 = .ok (.return_, 1) := by decide +kernel
theorem dX5_workOnVariables_0 : decode cX5_workOnVariables 0 = .ok (.aload_n 0, 1) := by decide +kernel
theorem dX5_workOnVariables_1 : decode cX5_workOnVariables 1 = .ok (.getfield 27, 3) := by decide +kernel
theorem dX5_workOnVariables_4 : decode cX5_workOnVariables 4 = .ok (.getfield 121, 3) := by decide +kernel
theorem dX5_workOnVariables_7 : decode cX5_workOnVariables 7 = .ok (.iload_n 1, 1) := by decide +kernel
theorem dX5_workOnVariables_8 : decode cX5_workOnVariables 8 = .ok (.iaload, 1) := by decide +kernel
theorem dX5_workOnVariables_9 : decode cX5_workOnVariables 9 = .ok (.istore_n 2, 1) := by decide +kernel
theorem dX5_workOnVariables_10 : decode cX5_workOnVariables 10 = .ok (.aload_n 0, 1) := by decide +kernel
theorem dX5_workOnVariables_11 : decode cX5_workOnVariables 11 = .ok (.getfield 27, 3) := by decide +kernel
theorem dX5_workOnVariables_14 : decode cX5_workOnVariables 14 = .ok (.getfield 84, 3) := by decide +kernel
theorem dX5_workOnVariables_17 : decode cX5_workOnVariables 17 = .ok (.iload_n 1, 1) := by decide +kernel
theorem dX5_workOnVariables_18 : decode cX5_workOnVariables 18 = .ok (.iaload, 1) := by decide +kernel
theorem dX5_workOnVariables_19 : decode cX5_workOnVariables 19 = .ok (.tableswitch 317 24 32 #[49, 57, 72, 118, 80, 158, 255, 88, 101], 49) := by decide +kernel
theorem dX5_workOnVariables_68 : decode cX5_workOnVariables 68 = .ok (.aload_n 0, 1) := by decide +kernel
theorem dX5_workOnVariables_69 : decode cX5_workOnVariables 69 = .ok (.iload_n 2, 1) := by decide +kernel
theorem dX5_workOnVariables_70 : decode cX5_workOnVariables 70 = .ok (.invokevirtual 261, 3) := by decide +kernel
theorem dX5_workOnVariables_73 : decode cX5_workOnVariables 73 = .ok (.goto 263, 3) := by decide +kernel
theorem dX5_workOnVariables_76 : decode cX5_workOnVariables 76 = .ok (.aload_n 0, 1) := by decide +kernel
theorem dX5_workOnVariables_77 : decode cX5_workOnVariables 77 = .ok (.getfield 24, 3) := by decide +kernel
theorem dX5_workOnVariables_80 : decode cX5_workOnVariables 80 = .ok (.aload_n 0, 1) := by decide +kernel
theorem dX5_workOnVariables_81 : decode cX5_workOnVariables 81 = .ok (.getfield 175, 3) := by decide +kernel
theorem dX5_workOnVariables_84 : decode cX5_workOnVariables 84 = .ok (.iload_n 2, 1) := by decide +kernel
theorem dX5_workOnVariables_85 : decode cX5_workOnVariables 85 = .ok (.iadd, 1) := by decide +kernel
theorem dX5_workOnVariables_86 : decode cX5_workOnVariables 86 = .ok (.iconst 0, 1) := by decide +kernel
theorem dX5_workOnVariables_87 : decode cX5_workOnVariables 87 = .ok (.iastore, 1) := by decide +kernel
theorem dX5_workOnVariables_88 : decode cX5_workOnVariables 88 = .ok (.goto 248, 3) := by decide +kernel
theorem dX5_workOnVariables_91 : decode cX5_workOnVariables 91 = .ok (.aload_n 0, 1) := by decide +kernel
theorem dX5_workOnVariables_92 : decode cX5_workOnVariables 92 = .ok (.iload_n 2, 1) := by decide +kernel
theorem dX5_workOnVariables_93 : decode cX5_workOnVariables 93 = .ok (.invokevirtual 264, 3) := by decide +kernel
theorem dX5_workOnVariables_96 : decode cX5_workOnVariables 96 = .ok (.goto 240, 3) := by decide +kernel
theorem dX5_workOnVariables_99 : decode cX5_workOnVariables 99 = .ok (.aload_n 0, 1) := by decide +kernel
theorem dX5_workOnVariables_100 : decode cX5_workOnVariables 100 = .ok (.iload_n 2, 1) := by decide +kernel
theorem dX5_workOnVariables_101 : decode cX5_workOnVariables 101 = .ok (.invokevirtual 267, 3) := by decide +kernel
theorem dX5_workOnVariables_104 : decode cX5_workOnVariables 104 = .ok (.goto 232, 3) := by decide +kernel
theorem dX5_workOnVariables_107 : decode cX5_workOnVariables 107 = .ok (.aload_n 0, 1) := by decide +kernel
theorem dX5_workOnVariables_108 : decode cX5_workOnVariables 108 = .ok (.dup, 1) := by decide +kernel
theorem dX5_workOnVariables_109 : decode cX5_workOnVariables 109 = .ok (.getfield 73, 3) := by decide +kernel
theorem dX5_workOnVariables_112 : decode cX5_workOnVariables 112 = .ok (.iload_n 2, 1) := by decide +kernel
theorem dX5_workOnVariables_113 : decode cX5_workOnVariables 113 = .ok (.isub, 1) := by decide +kernel
theorem dX5_workOnVariables_114 : decode cX5_workOnVariables 114 = .ok (.putfield 73, 3) := by decide +kernel
theorem dX5_workOnVariables_117 : decode cX5_workOnVariables 117 = .ok (.goto 219, 3) := by decide +kernel
theorem dX5_workOnVariables_120 : decode cX5_workOnVariables 120 = .ok (.aload_n 0, 1) := by decide +kernel
theorem dX5_workOnVariables_121 : decode cX5_workOnVariables 121 = .ok (.iload_n 2, 1) := by decide +kernel
theorem dX5_workOnVariables_122 : decode cX5_workOnVariables 122 = .ok (.aload_n 0, 1) := by decide +kernel
theorem dX5_workOnVariables_123 : decode cX5_workOnVariables 123 = .ok (.getfield 27, 3) := by decide +kernel
theorem dX5_workOnVariables_126 : decode cX5_workOnVariables 126 = .ok (.getfield 124, 3) := by decide +kernel
theorem dX5_workOnVariables_129 : decode cX5_workOnVariables 129 = .ok (.iload_n 1, 1) := by decide +kernel
theorem dX5_workOnVariables_130 : decode cX5_workOnVariables 130 = .ok (.iaload, 1) := by decide +kernel
theorem dX5_workOnVariables_131 : decode cX5_workOnVariables 131 = .ok (.invokevirtual 248, 3) := by decide +kernel
theorem dX5_workOnVariables_134 : decode cX5_workOnVariables 134 = .ok (.goto 202, 3) := by decide +kernel
theorem dX5_workOnVariables_137 : decode cX5_workOnVariables 137 = .ok (.aload_n 0, 1) := by decide +kernel
theorem dX5_workOnVariables_138 : decode cX5_workOnVariables 138 = .ok (.getfield 31, 3) := by decide +kernel
theorem dX5_workOnVariables_141 : decode cX5_workOnVariables 141 = .ok (.getfield 143, 3) := by decide +kernel
theorem dX5_workOnVariables_144 : decode cX5_workOnVariables 144 = .ok (.iload_n 2, 1) := by decide +kernel
theorem dX5_workOnVariables_145 : decode cX5_workOnVariables 145 = .ok (.iaload, 1) := by decide +kernel
theorem dX5_workOnVariables_146 : decode cX5_workOnVariables 146 = .ok (.istore_n 3, 1) := by decide +kernel
theorem dX5_workOnVariables_147 : decode cX5_workOnVariables 147 = .ok (.aload_n 0, 1) := by decide +kernel
theorem dX5_workOnVariables_148 : decode cX5_workOnVariables 148 = .ok (.getfield 39, 3) := by decide +kernel
theorem dX5_workOnVariables_151 : decode cX5_workOnVariables 151 = .ok (.iload_n 2, 1) := by decide +kernel
theorem dX5_workOnVariables_152 : decode cX5_workOnVariables 152 = .ok (.aload_n 0, 1) := by decide +kernel
theorem dX5_workOnVariables_153 : decode cX5_workOnVariables 153 = .ok (.getfield 73, 3) := by decide +kernel
theorem dX5_workOnVariables_156 : decode cX5_workOnVariables 156 = .ok (.iload_n 3, 1) := by decide +kernel
theorem dX5_workOnVariables_157 : decode cX5_workOnVariables 157 = .ok (.isub, 1) := by decide +kernel
theorem dX5_workOnVariables_158 : decode cX5_workOnVariables 158 = .ok (.ldc_w 270, 3) := by decide +kernel
theorem dX5_workOnVariables_161 : decode cX5_workOnVariables 161 = .ok (.invokevirtual 257, 3) := by decide +kernel
theorem dX5_workOnVariables_164 : decode cX5_workOnVariables 164 = .ok (.aload_n 0, 1) := by decide +kernel
theorem dX5_workOnVariables_165 : decode cX5_workOnVariables 165 = .ok (.dup, 1) := by decide +kernel
theorem dX5_workOnVariables_166 : decode cX5_workOnVariables 166 = .ok (.getfield 73, 3) := by decide +kernel
theorem dX5_workOnVariables_169 : decode cX5_workOnVariables 169 = .ok (.iload_n 3, 1) := by decide +kernel
theorem dX5_workOnVariables_170 : decode cX5_workOnVariables 170 = .ok (.isub, 1) := by decide +kernel
theorem dX5_workOnVariables_171 : decode cX5_workOnVariables 171 = .ok (.putfield 73, 3) := by decide +kernel
theorem dX5_workOnVariables_174 : decode cX5_workOnVariables 174 = .ok (.goto 162, 3) := by decide +kernel
theorem dX5_workOnVariables_177 : decode cX5_workOnVariables 177 = .ok (.aload_n 0, 1) := by decide +kernel
theorem dX5_workOnVariables_178 : decode cX5_workOnVariables 178 = .ok (.getfield 31, 3) := by decide +kernel
theorem dX5_workOnVariables_181 : decode cX5_workOnVariables 181 = .ok (.getfield 143, 3) := by decide +kernel
theorem dX5_workOnVariables_184 : decode cX5_workOnVariables 184 = .ok (.aload_n 0, 1) := by decide +kernel
theorem dX5_workOnVariables_185 : decode cX5_workOnVariables 185 = .ok (.getfield 111, 3) := by decide +kernel
theorem dX5_workOnVariables_188 : decode cX5_workOnVariables 188 = .ok (.getfield 245, 3) := by decide +kernel
theorem dX5_workOnVariables_191 : decode cX5_workOnVariables 191 = .ok (.iload_n 2, 1) := by decide +kernel
theorem dX5_workOnVariables_192 : decode cX5_workOnVariables 192 = .ok (.iaload, 1) := by decide +kernel
theorem dX5_workOnVariables_193 : decode cX5_workOnVariables 193 = .ok (.iaload, 1) := by decide +kernel
theorem dX5_workOnVariables_194 : decode cX5_workOnVariables 194 = .ok (.istore_n 3, 1) := by decide +kernel
theorem dX5_workOnVariables_195 : decode cX5_workOnVariables 195 = .ok (.aload_n 0, 1) := by decide +kernel
theorem dX5_workOnVariables_196 : decode cX5_workOnVariables 196 = .ok (.getfield 73, 3) := by decide +kernel
theorem dX5_workOnVariables_199 : decode cX5_workOnVariables 199 = .ok (.aload_n 0, 1) := by decide +kernel
theorem dX5_workOnVariables_200 : decode cX5_workOnVariables 200 = .ok (.getfield 27, 3) := by decide +kernel
theorem dX5_workOnVariables_203 : decode cX5_workOnVariables 203 = .ok (.getfield 164, 3) := by decide +kernel
theorem dX5_workOnVariables_206 : decode cX5_workOnVariables 206 = .ok (.iload_n 1, 1) := by decide +kernel
theorem dX5_workOnVariables_207 : decode cX5_workOnVariables 207 = .ok (.iaload, 1) := by decide +kernel
theorem dX5_workOnVariables_208 : decode cX5_workOnVariables 208 = .ok (.isub, 1) := by decide +kernel
theorem dX5_workOnVariables_209 : decode cX5_workOnVariables 209 = .ok (.aload_n 0, 1) := by decide +kernel
theorem dX5_workOnVariables_210 : decode cX5_workOnVariables 210 = .ok (.getfield 27, 3) := by decide +kernel
theorem dX5_workOnVariables_213 : decode cX5_workOnVariables 213 = .ok (.getfield 124, 3) := by decide +kernel
theorem dX5_workOnVariables_216 : decode cX5_workOnVariables 216 = .ok (.iload_n 1, 1) := by decide +kernel
theorem dX5_workOnVariables_217 : decode cX5_workOnVariables 217 = .ok (.iaload, 1) := by decide +kernel
theorem dX5_workOnVariables_218 : decode cX5_workOnVariables 218 = .ok (.iadd, 1) := by decide +kernel
theorem dX5_workOnVariables_219 : decode cX5_workOnVariables 219 = .ok (.istore 4, 2) := by decide +kernel
theorem dX5_workOnVariables_221 : decode cX5_workOnVariables 221 = .ok (.aload_n 0, 1) := by decide +kernel
theorem dX5_workOnVariables_222 : decode cX5_workOnVariables 222 = .ok (.getfield 39, 3) := by decide +kernel
theorem dX5_workOnVariables_225 : decode cX5_workOnVariables 225 = .ok (.getfield 98, 3) := by decide +kernel
theorem dX5_workOnVariables_228 : decode cX5_workOnVariables 228 = .ok (.iload 4, 2) := by decide +kernel
theorem dX5_workOnVariables_230 : decode cX5_workOnVariables 230 = .ok (.aload_n 0, 1) := by decide +kernel
theorem dX5_workOnVariables_231 : decode cX5_workOnVariables 231 = .ok (.getfield 39, 3) := by decide +kernel
theorem dX5_workOnVariables_234 : decode cX5_workOnVariables 234 = .ok (.getfield 98, 3) := by decide +kernel
theorem dX5_workOnVariables_237 : decode cX5_workOnVariables 237 = .ok (.aload_n 0, 1) := by decide +kernel
theorem dX5_workOnVariables_238 : decode cX5_workOnVariables 238 = .ok (.getfield 70, 3) := by decide +kernel
theorem dX5_workOnVariables_241 : decode cX5_workOnVariables 241 = .ok (.aload_n 0, 1) := by decide +kernel
theorem dX5_workOnVariables_242 : decode cX5_workOnVariables 242 = .ok (.getfield 111, 3) := by decide +kernel
theorem dX5_workOnVariables_245 : decode cX5_workOnVariables 245 = .ok (.getfield 115, 3) := by decide +kernel
theorem dX5_workOnVariables_248 : decode cX5_workOnVariables 248 = .ok (.iload_n 2, 1) := by decide +kernel
theorem dX5_workOnVariables_249 : decode cX5_workOnVariables 249 = .ok (.iaload, 1) := by decide +kernel
theorem dX5_workOnVariables_250 : decode cX5_workOnVariables 250 = .ok (.iadd, 1) := by decide +kernel
theorem dX5_workOnVariables_251 : decode cX5_workOnVariables 251 = .ok (.iload_n 3, 1) := by decide +kernel
theorem dX5_workOnVariables_252 : decode cX5_workOnVariables 252 = .ok (.invokestatic 102, 3) := by decide +kernel
theorem dX5_workOnVariables_255 : decode cX5_workOnVariables 255 = .ok (.aload_n 0, 1) := by decide +kernel
theorem dX5_workOnVariables_256 : decode cX5_workOnVariables 256 = .ok (.getfield 24, 3) := by decide +kernel
theorem dX5_workOnVariables_259 : decode cX5_workOnVariables 259 = .ok (.aload_n 0, 1) := by decide +kernel
theorem dX5_workOnVariables_260 : decode cX5_workOnVariables 260 = .ok (.getfield 175, 3) := by decide +kernel
theorem dX5_workOnVariables_263 : decode cX5_workOnVariables 263 = .ok (.iload_n 2, 1) := by decide +kernel
theorem dX5_workOnVariables_264 : decode cX5_workOnVariables 264 = .ok (.iadd, 1) := by decide +kernel
theorem dX5_workOnVariables_265 : decode cX5_workOnVariables 265 = .ok (.aload_n 0, 1) := by decide +kernel
theorem dX5_workOnVariables_266 : decode cX5_workOnVariables 266 = .ok (.iload_n 2, 1) := by decide +kernel
theorem dX5_workOnVariables_267 : decode cX5_workOnVariables 267 = .ok (.invokevirtual 242, 3) := by decide +kernel
theorem dX5_workOnVariables_270 : decode cX5_workOnVariables 270 = .ok (.iastore, 1) := by decide +kernel
theorem dX5_workOnVariables_271 : decode cX5_workOnVariables 271 = .ok (.goto 65, 3) := by decide +kernel
theorem dX5_workOnVariables_274 : decode cX5_workOnVariables 274 = .ok (.aload_n 0, 1) := by decide +kernel
theorem dX5_workOnVariables_275 : decode cX5_workOnVariables 275 = .ok (.getfield 39, 3) := by decide +kernel
theorem dX5_workOnVariables_278 : decode cX5_workOnVariables 278 = .ok (.getfield 98, 3) := by decide +kernel
theorem dX5_workOnVariables_281 : decode cX5_workOnVariables 281 = .ok (.aload_n 0, 1) := by decide +kernel
theorem dX5_workOnVariables_282 : decode cX5_workOnVariables 282 = .ok (.getfield 70, 3) := by decide +kernel
theorem dX5_workOnVariables_285 : decode cX5_workOnVariables 285 = .ok (.aload_n 0, 1) := by decide +kernel
theorem dX5_workOnVariables_286 : decode cX5_workOnVariables 286 = .ok (.getfield 111, 3) := by decide +kernel
theorem dX5_workOnVariables_289 : decode cX5_workOnVariables 289 = .ok (.getfield 115, 3) := by decide +kernel
theorem dX5_workOnVariables_292 : decode cX5_workOnVariables 292 = .ok (.iload_n 2, 1) := by decide +kernel
theorem dX5_workOnVariables_293 : decode cX5_workOnVariables 293 = .ok (.iaload, 1) := by decide +kernel
theorem dX5_workOnVariables_294 : decode cX5_workOnVariables 294 = .ok (.iadd, 1) := by decide +kernel
theorem dX5_workOnVariables_295 : decode cX5_workOnVariables 295 = .ok (.aload_n 0, 1) := by decide +kernel
theorem dX5_workOnVariables_296 : decode cX5_workOnVariables 296 = .ok (.getfield 39, 3) := by decide +kernel
theorem dX5_workOnVariables_299 : decode cX5_workOnVariables 299 = .ok (.getfield 98, 3) := by decide +kernel
theorem dX5_workOnVariables_302 : decode cX5_workOnVariables 302 = .ok (.aload_n 0, 1) := by decide +kernel
theorem dX5_workOnVariables_303 : decode cX5_workOnVariables 303 = .ok (.getfield 73, 3) := by decide +kernel
theorem dX5_workOnVariables_306 : decode cX5_workOnVariables 306 = .ok (.iconst 1, 1) := by decide +kernel
theorem dX5_workOnVariables_307 : decode cX5_workOnVariables 307 = .ok (.isub, 1) := by decide +kernel
theorem dX5_workOnVariables_308 : decode cX5_workOnVariables 308 = .ok (.laload, 1) := by decide +kernel
theorem dX5_workOnVariables_309 : decode cX5_workOnVariables 309 = .ok (.aload_n 0, 1) := by decide +kernel
theorem dX5_workOnVariables_310 : decode cX5_workOnVariables 310 = .ok (.getfield 27, 3) := by decide +kernel
theorem dX5_workOnVariables_313 : decode cX5_workOnVariables 313 = .ok (.getfield 124, 3) := by decide +kernel
theorem dX5_workOnVariables_316 : decode cX5_workOnVariables 316 = .ok (.iload_n 1, 1) := by decide +kernel
theorem dX5_workOnVariables_317 : decode cX5_workOnVariables 317 = .ok (.iaload, 1) := by decide +kernel
theorem dX5_workOnVariables_318 : decode cX5_workOnVariables 318 = .ok (.i2l, 1) := by decide +kernel
theorem dX5_workOnVariables_319 : decode cX5_workOnVariables 319 = .ok (.ladd, 1) := by decide +kernel
theorem dX5_workOnVariables_320 : decode cX5_workOnVariables 320 = .ok (.lastore, 1) := by decide +kernel
theorem dX5_workOnVariables_321 : decode cX5_workOnVariables 321 = .ok (.aload_n 0, 1) := by decide +kernel
theorem dX5_workOnVariables_322 : decode cX5_workOnVariables 322 = .ok (.getfield 24, 3) := by decide +kernel
theorem dX5_workOnVariables_325 : decode cX5_workOnVariables 325 = .ok (.aload_n 0, 1) := by decide +kernel
theorem dX5_workOnVariables_326 : decode cX5_workOnVariables 326 = .ok (.getfield 175, 3) := by decide +kernel
theorem dX5_workOnVariables_329 : decode cX5_workOnVariables 329 = .ok (.iload_n 2, 1) := by decide +kernel
theorem dX5_workOnVariables_330 : decode cX5_workOnVariables 330 = .ok (.iadd, 1) := by decide +kernel
theorem dX5_workOnVariables_331 : decode cX5_workOnVariables 331 = .ok (.iconst 1, 1) := by decide +kernel
theorem dX5_workOnVariables_332 : decode cX5_workOnVariables 332 = .ok (.iastore, 1) := by decide +kernel
theorem dX5_workOnVariables_333 : decode cX5_workOnVariables 333 = .ok (.goto 3, 3) := by decide +kernel
theorem dX5_workOnVariables_336 : decode cX5_workOnVariables 336 = .ok (.return_, 1) := by decide +kernel
