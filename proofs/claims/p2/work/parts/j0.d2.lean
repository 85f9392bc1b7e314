theorem dX23_is_0 : decode cX23_is 0 = .ok (.aload_n 0, 1) := by decide +kernel
theorem dX23_is_1 : decode cX23_is 1 = .ok (.getfield 25, 3) := by decide +kernel
theorem dX23_is_4 : decode cX23_is 4 = .ok (.aload_n 0, 1) := by decide +kernel
theorem dX23_is_5 : decode cX23_is 5 = .ok (.getfield 86, 3) := by decide +kernel
theorem dX23_is_8 : decode cX23_is 8 = .ok (.iaload, 1) := by decide +kernel
theorem dX23_is_9 : decode cX23_is 9 = .ok (.iload_n 1, 1) := by decide +kernel
theorem dX23_is_10 : decode cX23_is 10 = .ok (.if_icmp .ne 7, 3) := by decide +kernel
theorem dX23_is_13 : decode cX23_is 13 = .ok (.iconst 1, 1) := by decide +kernel
theorem dX23_is_14 : decode cX23_is 14 = .ok (.goto 4, 3) := by decide +kernel
theorem dX23_is_17 : decode cX23_is 17 = .ok (.iconst 0, 1) := by decide +kernel
theorem dX23_is_18 : decode cX23_is 18 = .ok (.ireturn, 1) := by decide +kernel
theorem dX23_take_0 : decode cX23_take 0 = .ok (.aload_n 0, 1) := by decide +kernel
theorem dX23_take_1 : decode cX23_take 1 = .ok (.invokevirtual 89, 3) := by decide +kernel
theorem dX23_take_4 : decode cX23_take 4 = .ok (.ifCond .ne 4, 3) := by decide +kernel
theorem dX23_take_7 : decode cX23_take 7 = .ok (.return_, 1) := by decide +kernel
theorem dX23_take_8 : decode cX23_take 8 = .ok (.aload_n 0, 1) := by decide +kernel
theorem dX23_take_9 : decode cX23_take 9 = .ok (.iload_n 1, 1) := by decide +kernel
theorem dX23_take_10 : decode cX23_take 10 = .ok (.invokevirtual 93, 3) := by decide +kernel
theorem dX23_take_13 : decode cX23_take 13 = .ok (.ifCond .eq 16, 3) := by decide +kernel
theorem dX23_take_16 : decode cX23_take 16 = .ok (.aload_n 0, 1) := by decide +kernel
theorem dX23_take_17 : decode cX23_take 17 = .ok (.dup, 1) := by decide +kernel
theorem dX23_take_18 : decode cX23_take 18 = .ok (.getfield 86, 3) := by decide +kernel
theorem dX23_take_21 : decode cX23_take 21 = .ok (.iconst 1, 1) := by decide +kernel
theorem dX23_take_22 : decode cX23_take 22 = .ok (.iadd, 1) := by decide +kernel
theorem dX23_take_23 : decode cX23_take 23 = .ok (.putfield 86, 3) := by decide +kernel
theorem dX23_take_26 : decode cX23_take 26 = .ok (.goto 12, 3) := by decide +kernel
theorem dX23_take_29 : decode cX23_take 29 = .ok (.aload_n 0, 1) := by decide +kernel
theorem dX23_take_30 : decode cX23_take 30 = .ok (.iconst 1, 1) := by decide +kernel
theorem dX23_take_31 : decode cX23_take 31 = .ok (.aload_n 0, 1) := by decide +kernel
theorem dX23_take_32 : decode cX23_take 32 = .ok (.getfield 86, 3) := by decide +kernel
theorem dX23_take_35 : decode cX23_take 35 = .ok (.invokevirtual 96, 3) := by decide +kernel
theorem dX23_take_38 : decode cX23_take 38 = .ok (.return_, 1) := by decide +kernel
theorem dX23_takes_0 : decode cX23_takes 0 = .ok (.aload_n 0, 1) := by decide +kernel
theorem dX23_takes_1 : decode cX23_takes 1 = .ok (.invokevirtual 89, 3) := by decide +kernel
theorem dX23_takes_4 : decode cX23_takes 4 = .ok (.ifCond .eq 11, 3) := by decide +kernel
theorem dX23_takes_7 : decode cX23_takes 7 = .ok (.aload_n 0, 1) := by decide +kernel
theorem dX23_takes_8 : decode cX23_takes 8 = .ok (.iload_n 1, 1) := by decide +kernel
theorem dX23_takes_9 : decode cX23_takes 9 = .ok (.invokevirtual 93, 3) := by decide +kernel
theorem dX23_takes_12 : decode cX23_takes 12 = .ok (.ifCond .ne 5, 3) := by decide +kernel
theorem dX23_takes_15 : decode cX23_takes 15 = .ok (.iconst 0, 1) := by decide +kernel
theorem dX23_takes_16 : decode cX23_takes 16 = .ok (.ireturn, 1) := by decide +kernel
theorem dX23_takes_17 : decode cX23_takes 17 = .ok (.aload_n 0, 1) := by decide +kernel
theorem dX23_takes_18 : decode cX23_takes 18 = .ok (.dup, 1) := by decide +kernel
theorem dX23_takes_19 : decode cX23_takes 19 = .ok (.getfield 86, 3) := by decide +kernel
theorem dX23_takes_22 : decode cX23_takes 22 = .ok (.iconst 1, 1) := by decide +kernel
theorem dX23_takes_23 : decode cX23_takes 23 = .ok (.iadd, 1) := by decide +kernel
theorem dX23_takes_24 : decode cX23_takes 24 = .ok (.putfield 86, 3) := by decide +kernel
theorem dX23_takes_27 : decode cX23_takes 27 = .ok (.iconst 1, 1) := by decide +kernel
theorem dX23_takes_28 : decode cX23_takes 28 = .ok (.ireturn, 1) := by decide +kernel
theorem dX23_name_0 : decode cX23_name 0 = .ok (.aload_n 0, 1) := by decide +kernel
theorem dX23_name_1 : decode cX23_name 1 = .ok (.iconst 2, 1) := by decide +kernel
theorem dX23_name_2 : decode cX23_name 2 = .ok (.invokevirtual 100, 3) := by decide +kernel
theorem dX23_name_5 : decode cX23_name 5 = .ok (.aload_n 0, 1) := by decide +kernel
theorem dX23_name_6 : decode cX23_name 6 = .ok (.getfield 86, 3) := by decide +kernel
theorem dX23_name_9 : decode cX23_name 9 = .ok (.iconst 1, 1) := by decide +kernel
theorem dX23_name_10 : decode cX23_name 10 = .ok (.isub, 1) := by decide +kernel
theorem dX23_name_11 : decode cX23_name 11 = .ok (.ireturn, 1) := by decide +kernel
theorem dX23_enter_0 : decode cX23_enter 0 = .ok (.aload_n 0, 1) := by decide +kernel
theorem dX23_enter_1 : decode cX23_enter 1 = .ok (.invokevirtual 89, 3) := by decide +kernel
theorem dX23_enter_4 : decode cX23_enter 4 = .ok (.ifCond .eq 18, 3) := by decide +kernel
theorem dX23_enter_7 : decode cX23_enter 7 = .ok (.aload_n 0, 1) := by decide +kernel
theorem dX23_enter_8 : decode cX23_enter 8 = .ok (.getfield 104, 3) := by decide +kernel
theorem dX23_enter_11 : decode cX23_enter 11 = .ok (.bipush 16, 2) := by decide +kernel
theorem dX23_enter_13 : decode cX23_enter 13 = .ok (.if_icmp .ne 9, 3) := by decide +kernel
theorem dX23_enter_16 : decode cX23_enter 16 = .ok (.aload_n 0, 1) := by decide +kernel
theorem dX23_enter_17 : decode cX23_enter 17 = .ok (.iconst 2, 1) := by decide +kernel
theorem dX23_enter_18 : decode cX23_enter 18 = .ok (.iload_n 1, 1) := by decide +kernel
theorem dX23_enter_19 : decode cX23_enter 19 = .ok (.invokevirtual 96, 3) := by decide +kernel
theorem dX23_enter_22 : decode cX23_enter 22 = .ok (.aload_n 0, 1) := by decide +kernel
theorem dX23_enter_23 : decode cX23_enter 23 = .ok (.dup, 1) := by decide +kernel
theorem dX23_enter_24 : decode cX23_enter 24 = .ok (.getfield 104, 3) := by decide +kernel
theorem dX23_enter_27 : decode cX23_enter 27 = .ok (.iconst 1, 1) := by decide +kernel
theorem dX23_enter_28 : decode cX23_enter 28 = .ok (.iadd, 1) := by decide +kernel
theorem dX23_enter_29 : decode cX23_enter 29 = .ok (.putfield 104, 3) := by decide +kernel
theorem dX23_enter_32 : decode cX23_enter 32 = .ok (.return_, 1) := by decide +kernel
theorem dX23_limit_0 : decode cX23_limit 0 = .ok (.aload_n 0, 1) := by decide +kernel
theorem dX23_limit_1 : decode cX23_limit 1 = .ok (.invokevirtual 89, 3) := by decide +kernel
theorem dX23_limit_4 : decode cX23_limit 4 = .ok (.ifCond .eq 25, 3) := by decide +kernel
theorem dX23_limit_7 : decode cX23_limit 7 = .ok (.aload_n 0, 1) := by decide +kernel
theorem dX23_limit_8 : decode cX23_limit 8 = .ok (.iconst 2, 1) := by decide +kernel
theorem dX23_limit_9 : decode cX23_limit 9 = .ok (.invokevirtual 93, 3) := by decide +kernel
theorem dX23_limit_12 : decode cX23_limit 12 = .ok (.ifCond .eq 17, 3) := by decide +kernel
theorem dX23_limit_15 : decode cX23_limit 15 = .ok (.iload_n 1, 1) := by decide +kernel
theorem dX23_limit_16 : decode cX23_limit 16 = .ok (.iload_n 2, 1) := by decide +kernel
theorem dX23_limit_17 : decode cX23_limit 17 = .ok (.if_icmp .ne 12, 3) := by decide +kernel
theorem dX23_limit_20 : decode cX23_limit 20 = .ok (.aload_n 0, 1) := by decide +kernel
theorem dX23_limit_21 : decode cX23_limit 21 = .ok (.iconst 2, 1) := by decide +kernel
theorem dX23_limit_22 : decode cX23_limit 22 = .ok (.aload_n 0, 1) := by decide +kernel
theorem dX23_limit_23 : decode cX23_limit 23 = .ok (.getfield 86, 3) := by decide +kernel
theorem dX23_limit_26 : decode cX23_limit 26 = .ok (.invokevirtual 96, 3) := by decide +kernel
theorem dX23_limit_29 : decode cX23_limit 29 = .ok (.return_, 1) := by decide +kernel
theorem dX23_oneVariable_0 : decode cX23_oneVariable 0 = .ok (.aload_n 0, 1) := by decide +kernel
theorem dX23_oneVariable_1 : decode cX23_oneVariable 1 = .ok (.invokevirtual 89, 3) := by decide +kernel
theorem dX23_oneVariable_4 : decode cX23_oneVariable 4 = .ok (.ifCond .eq 29, 3) := by decide +kernel
theorem dX23_oneVariable_7 : decode cX23_oneVariable 7 = .ok (.aload_n 0, 1) := by decide +kernel
theorem dX23_oneVariable_8 : decode cX23_oneVariable 8 = .ok (.iconst 2, 1) := by decide +kernel
theorem dX23_oneVariable_9 : decode cX23_oneVariable 9 = .ok (.invokevirtual 93, 3) := by decide +kernel
theorem dX23_oneVariable_12 : decode cX23_oneVariable 12 = .ok (.ifCond .eq 21, 3) := by decide +kernel
theorem dX23_oneVariable_15 : decode cX23_oneVariable 15 = .ok (.aload_n 0, 1) := by decide +kernel
theorem dX23_oneVariable_16 : decode cX23_oneVariable 16 = .ok (.getfield 204, 3) := by decide +kernel
theorem dX23_oneVariable_19 : decode cX23_oneVariable 19 = .ok (.bipush 40, 2) := by decide +kernel
theorem dX23_oneVariable_21 : decode cX23_oneVariable 21 = .ok (.if_icmp .ne 12, 3) := by decide +kernel
theorem dX23_oneVariable_24 : decode cX23_oneVariable 24 = .ok (.aload_n 0, 1) := by decide +kernel
theorem dX23_oneVariable_25 : decode cX23_oneVariable 25 = .ok (.iconst 2, 1) := by decide +kernel
theorem dX23_oneVariable_26 : decode cX23_oneVariable 26 = .ok (.aload_n 0, 1) := by decide +kernel
theorem dX23_oneVariable_27 : decode cX23_oneVariable 27 = .ok (.getfield 86, 3) := by decide +kernel
theorem dX23_oneVariable_30 : decode cX23_oneVariable 30 = .ok (.invokevirtual 96, 3) := by decide +kernel
theorem dX23_oneVariable_33 : decode cX23_oneVariable 33 = .ok (.aload_n 0, 1) := by decide +kernel
theorem dX23_oneVariable_34 : decode cX23_oneVariable 34 = .ok (.dup, 1) := by decide +kernel
theorem dX23_oneVariable_35 : decode cX23_oneVariable 35 = .ok (.getfield 204, 3) := by decide +kernel
theorem dX23_oneVariable_38 : decode cX23_oneVariable 38 = .ok (.iconst 1, 1) := by decide +kernel
theorem dX23_oneVariable_39 : decode cX23_oneVariable 39 = .ok (.iadd, 1) := by decide +kernel
theorem dX23_oneVariable_40 : decode cX23_oneVariable 40 = .ok (.putfield 204, 3) := by decide +kernel
theorem dX23_oneVariable_43 : decode cX23_oneVariable 43 = .ok (.return_, 1) := by decide +kernel
theorem dX23_borrow_0 : decode cX23_borrow 0 = .ok (.aload_n 0, 1) := by decide +kernel
theorem dX23_borrow_1 : decode cX23_borrow 1 = .ok (.invokevirtual 89, 3) := by decide +kernel
theorem dX23_borrow_4 : decode cX23_borrow 4 = .ok (.ifCond .eq 21, 3) := by decide +kernel
theorem dX23_borrow_7 : decode cX23_borrow 7 = .ok (.aload_n 0, 1) := by decide +kernel
theorem dX23_borrow_8 : decode cX23_borrow 8 = .ok (.getfield 207, 3) := by decide +kernel
theorem dX23_borrow_11 : decode cX23_borrow 11 = .ok (.bipush 54, 2) := by decide +kernel
theorem dX23_borrow_13 : decode cX23_borrow 13 = .ok (.if_icmp .ne 12, 3) := by decide +kernel
theorem dX23_borrow_16 : decode cX23_borrow 16 = .ok (.aload_n 0, 1) := by decide +kernel
theorem dX23_borrow_17 : decode cX23_borrow 17 = .ok (.iconst 2, 1) := by decide +kernel
theorem dX23_borrow_18 : decode cX23_borrow 18 = .ok (.aload_n 0, 1) := by decide +kernel
theorem dX23_borrow_19 : decode cX23_borrow 19 = .ok (.getfield 86, 3) := by decide +kernel
theorem dX23_borrow_22 : decode cX23_borrow 22 = .ok (.invokevirtual 96, 3) := by decide +kernel
theorem dX23_borrow_25 : decode cX23_borrow 25 = .ok (.aload_n 0, 1) := by decide +kernel
theorem dX23_borrow_26 : decode cX23_borrow 26 = .ok (.dup, 1) := by decide +kernel
theorem dX23_borrow_27 : decode cX23_borrow 27 = .ok (.getfield 207, 3) := by decide +kernel
theorem dX23_borrow_30 : decode cX23_borrow 30 = .ok (.iconst 1, 1) := by decide +kernel
theorem dX23_borrow_31 : decode cX23_borrow 31 = .ok (.iadd, 1) := by decide +kernel
theorem dX23_borrow_32 : decode cX23_borrow 32 = .ok (.putfield 207, 3) := by decide +kernel
theorem dX23_borrow_35 : decode cX23_borrow 35 = .ok (.return_, 1) := by decide +kernel
theorem dX23_written_0 : decode cX23_written 0 = .ok (.new 107, 3) := by decide +kernel
theorem dX23_written_3 : decode cX23_written 3 = .ok (.dup, 1) := by decide +kernel
theorem dX23_written_4 : decode cX23_written 4 = .ok (.invokespecial 109, 3) := by decide +kernel
theorem dX23_written_7 : decode cX23_written 7 = .ok (.astore_n 1, 1) := by decide +kernel
theorem dX23_written_8 : decode cX23_written 8 = .ok (.aload_n 0, 1) := by decide +kernel
theorem dX23_written_9 : decode cX23_written 9 = .ok (.invokevirtual 89, 3) := by decide +kernel
theorem dX23_written_12 : decode cX23_written 12 = .ok (.ifCond .ne 5, 3) := by decide +kernel
theorem dX23_written_15 : decode cX23_written 15 = .ok (.aload_n 1, 1) := by decide +kernel
theorem dX23_written_16 : decode cX23_written 16 = .ok (.areturn, 1) := by decide +kernel
theorem dX23_written_17 : decode cX23_written 17 = .ok (.aload_n 1, 1) := by decide +kernel
theorem dX23_written_18 : decode cX23_written 18 = .ok (.aload_n 0, 1) := by decide +kernel
theorem dX23_written_19 : decode cX23_written 19 = .ok (.getfield 86, 3) := by decide +kernel
theorem dX23_written_22 : decode cX23_written 22 = .ok (.putfield 113, 3) := by decide +kernel
theorem dX23_written_25 : decode cX23_written 25 = .ok (.aload_n 1, 1) := by decide +kernel
theorem dX23_written_26 : decode cX23_written 26 = .ok (.aload_n 0, 1) := by decide +kernel
theorem dX23_written_27 : decode cX23_written 27 = .ok (.getfield 25, 3) := by decide +kernel
theorem dX23_written_30 : decode cX23_written 30 = .ok (.aload_n 0, 1) := by decide +kernel
theorem dX23_written_31 : decode cX23_written 31 = .ok (.getfield 86, 3) := by decide +kernel
theorem dX23_written_34 : decode cX23_written 34 = .ok (.iaload, 1) := by decide +kernel
theorem dX23_written_35 : decode cX23_written 35 = .ok (.putfield 116, 3) := by decide +kernel
theorem dX23_written_38 : decode cX23_written 38 = .ok (.aload_n 0, 1) := by decide +kernel
theorem dX23_written_39 : decode cX23_written 39 = .ok (.bipush 23, 2) := by decide +kernel
theorem dX23_written_41 : decode cX23_written 41 = .ok (.invokevirtual 93, 3) := by decide +kernel
theorem dX23_written_44 : decode cX23_written 44 = .ok (.ifCond .ne 12, 3) := by decide +kernel
theorem dX23_written_47 : decode cX23_written 47 = .ok (.aload_n 0, 1) := by decide +kernel
theorem dX23_written_48 : decode cX23_written 48 = .ok (.bipush 55, 2) := by decide +kernel
theorem dX23_written_50 : decode cX23_written 50 = .ok (.invokevirtual 93, 3) := by decide +kernel
theorem dX23_written_53 : decode cX23_written 53 = .ok (.ifCond .eq 104, 3) := by decide +kernel
theorem dX23_written_56 : decode cX23_written 56 = .ok (.aload_n 0, 1) := by decide +kernel
theorem dX23_written_57 : decode cX23_written 57 = .ok (.aload_n 0, 1) := by decide +kernel
theorem dX23_written_58 : decode cX23_written 58 = .ok (.getfield 86, 3) := by decide +kernel
theorem dX23_written_61 : decode cX23_written 61 = .ok (.invokevirtual 119, 3) := by decide +kernel
theorem dX23_written_64 : decode cX23_written 64 = .ok (.aload_n 0, 1) := by decide +kernel
theorem dX23_written_65 : decode cX23_written 65 = .ok (.bipush 55, 2) := by decide +kernel
theorem dX23_written_67 : decode cX23_written 67 = .ok (.invokevirtual 93, 3) := by decide +kernel
theorem dX23_written_70 : decode cX23_written 70 = .ok (.istore_n 2, 1) := by decide +kernel
theorem dX23_written_71 : decode cX23_written 71 = .ok (.aload_n 0, 1) := by decide +kernel
theorem dX23_written_72 : decode cX23_written 72 = .ok (.dup, 1) := by decide +kernel
theorem dX23_written_73 : decode cX23_written 73 = .ok (.getfield 86, 3) := by decide +kernel
theorem dX23_written_76 : decode cX23_written 76 = .ok (.iconst 1, 1) := by decide +kernel
theorem dX23_written_77 : decode cX23_written 77 = .ok (.iadd, 1) := by decide +kernel
theorem dX23_written_78 : decode cX23_written 78 = .ok (.putfield 86, 3) := by decide +kernel
theorem dX23_written_81 : decode cX23_written 81 = .ok (.iload_n 2, 1) := by decide +kernel
theorem dX23_written_82 : decode cX23_written 82 = .ok (.ifCond .eq 36, 3) := by decide +kernel
theorem dX23_written_85 : decode cX23_written 85 = .ok (.aload_n 0, 1) := by decide +kernel
theorem dX23_written_86 : decode cX23_written 86 = .ok (.invokevirtual 89, 3) := by decide +kernel
theorem dX23_written_89 : decode cX23_written 89 = .ok (.ifCond .eq 29, 3) := by decide +kernel
theorem dX23_written_92 : decode cX23_written 92 = .ok (.aload_n 0, 1) := by decide +kernel
theorem dX23_written_93 : decode cX23_written 93 = .ok (.iconst 4, 1) := by decide +kernel
theorem dX23_written_94 : decode cX23_written 94 = .ok (.invokevirtual 93, 3) := by decide +kernel
theorem dX23_written_97 : decode cX23_written 97 = .ok (.ifCond .eq 21, 3) := by decide +kernel
theorem dX23_written_100 : decode cX23_written 100 = .ok (.aload_n 1, 1) := by decide +kernel
theorem dX23_written_101 : decode cX23_written 101 = .ok (.aload_n 0, 1) := by decide +kernel
theorem dX23_written_102 : decode cX23_written 102 = .ok (.getfield 86, 3) := by decide +kernel
theorem dX23_written_105 : decode cX23_written 105 = .ok (.putfield 122, 3) := by decide +kernel
theorem dX23_written_108 : decode cX23_written 108 = .ok (.aload_n 0, 1) := by decide +kernel
theorem dX23_written_109 : decode cX23_written 109 = .ok (.dup, 1) := by decide +kernel
theorem dX23_written_110 : decode cX23_written 110 = .ok (.getfield 86, 3) := by decide +kernel
theorem dX23_written_113 : decode cX23_written 113 = .ok (.iconst 1, 1) := by decide +kernel
theorem dX23_written_114 : decode cX23_written 114 = .ok (.iadd, 1) := by decide +kernel
theorem dX23_written_115 : decode cX23_written 115 = .ok (.putfield 86, 3) := by decide +kernel
theorem dX23_written_118 : decode cX23_written 118 = .ok (.iload_n 2, 1) := by decide +kernel
theorem dX23_written_119 : decode cX23_written 119 = .ok (.ifCond .eq 17, 3) := by decide +kernel
theorem dX23_written_122 : decode cX23_written 122 = .ok (.aload_n 0, 1) := by decide +kernel
theorem dX23_written_123 : decode cX23_written 123 = .ok (.bipush 14, 2) := by decide +kernel
theorem dX23_written_125 : decode cX23_written 125 = .ok (.invokevirtual 125, 3) := by decide +kernel
theorem dX23_written_128 : decode cX23_written 128 = .ok (.ifCond .eq 8, 3) := by decide +kernel
theorem dX23_written_131 : decode cX23_written 131 = .ok (.aload_n 1, 1) := by decide +kernel
theorem dX23_written_132 : decode cX23_written 132 = .ok (.iconst 1, 1) := by decide +kernel
theorem dX23_written_133 : decode cX23_written 133 = .ok (.putfield 128, 3) := by decide +kernel
theorem dX23_written_136 : decode cX23_written 136 = .ok (.aload_n 1, 1) := by decide +kernel
theorem dX23_written_137 : decode cX23_written 137 = .ok (.aload_n 0, 1) := by decide +kernel
theorem dX23_written_138 : decode cX23_written 138 = .ok (.invokevirtual 131, 3) := by decide +kernel
theorem dX23_written_141 : decode cX23_written 141 = .ok (.putfield 135, 3) := by decide +kernel
theorem dX23_written_144 : decode cX23_written 144 = .ok (.aload_n 0, 1) := by decide +kernel
theorem dX23_written_145 : decode cX23_written 145 = .ok (.dup, 1) := by decide +kernel
theorem dX23_written_146 : decode cX23_written 146 = .ok (.getfield 104, 3) := by decide +kernel
theorem dX23_written_149 : decode cX23_written 149 = .ok (.iconst 1, 1) := by decide +kernel
theorem dX23_written_150 : decode cX23_written 150 = .ok (.isub, 1) := by decide +kernel
theorem dX23_written_151 : decode cX23_written 151 = .ok (.putfield 104, 3) := by decide +kernel
theorem dX23_written_154 : decode cX23_written 154 = .ok (.goto 60, 3) := by decide +kernel
theorem dX23_written_157 : decode cX23_written 157 = .ok (.aload_n 0, 1) := by decide +kernel
theorem dX23_written_158 : decode cX23_written 158 = .ok (.bipush 26, 2) := by decide +kernel
theorem dX23_written_160 : decode cX23_written 160 = .ok (.invokevirtual 93, 3) := by decide +kernel
theorem dX23_written_163 : decode cX23_written 163 = .ok (.ifCond .ne 29, 3) := by decide +kernel
theorem dX23_written_166 : decode cX23_written 166 = .ok (.aload_n 0, 1) := by decide +kernel
theorem dX23_written_167 : decode cX23_written 167 = .ok (.bipush 27, 2) := by decide +kernel
theorem dX23_written_169 : decode cX23_written 169 = .ok (.invokevirtual 93, 3) := by decide +kernel
theorem dX23_written_172 : decode cX23_written 172 = .ok (.ifCond .ne 20, 3) := by decide +kernel
theorem dX23_written_175 : decode cX23_written 175 = .ok (.aload_n 0, 1) := by decide +kernel
theorem dX23_written_176 : decode cX23_written 176 = .ok (.bipush 25, 2) := by decide +kernel
theorem dX23_written_178 : decode cX23_written 178 = .ok (.invokevirtual 93, 3) := by decide +kernel
theorem dX23_written_181 : decode cX23_written 181 = .ok (.ifCond .ne 11, 3) := by decide +kernel
theorem dX23_written_184 : decode cX23_written 184 = .ok (.aload_n 0, 1) := by decide +kernel
theorem dX23_written_185 : decode cX23_written 185 = .ok (.iconst 2, 1) := by decide +kernel
theorem dX23_written_186 : decode cX23_written 186 = .ok (.invokevirtual 93, 3) := by decide +kernel
theorem dX23_written_189 : decode cX23_written 189 = .ok (.ifCond .eq 16, 3) := by decide +kernel
theorem dX23_written_192 : decode cX23_written 192 = .ok (.aload_n 0, 1) := by decide +kernel
theorem dX23_written_193 : decode cX23_written 193 = .ok (.dup, 1) := by decide +kernel
theorem dX23_written_194 : decode cX23_written 194 = .ok (.getfield 86, 3) := by decide +kernel
theorem dX23_written_197 : decode cX23_written 197 = .ok (.iconst 1, 1) := by decide +kernel
theorem dX23_written_198 : decode cX23_written 198 = .ok (.iadd, 1) := by decide +kernel
theorem dX23_written_199 : decode cX23_written 199 = .ok (.putfield 86, 3) := by decide +kernel
theorem dX23_written_202 : decode cX23_written 202 = .ok (.goto 12, 3) := by decide +kernel
theorem dX23_written_205 : decode cX23_written 205 = .ok (.aload_n 0, 1) := by decide +kernel
theorem dX23_written_206 : decode cX23_written 206 = .ok (.iconst 1, 1) := by decide +kernel
theorem dX23_written_207 : decode cX23_written 207 = .ok (.aload_n 0, 1) := by decide +kernel
theorem dX23_written_208 : decode cX23_written 208 = .ok (.getfield 86, 3) := by decide +kernel
theorem dX23_written_211 : decode cX23_written 211 = .ok (.invokevirtual 96, 3) := by decide +kernel
theorem dX23_written_214 : decode cX23_written 214 = .ok (.aload_n 1, 1) := by decide +kernel
theorem dX23_written_215 : decode cX23_written 215 = .ok (.areturn, 1) := by decide +kernel
theorem dX13_init_0 : decode cX13_init 0 = .ok (.aload_n 0, 1) := by decide +kernel
theorem dX13_init_1 : decode cX13_init 1 = .ok (.invokespecial 1, 3) := by decide +kernel
theorem dX13_init_4 : decode cX13_init 4 = .ok (.aload_n 0, 1) := by decide +kernel
theorem dX13_init_5 : decode cX13_init 5 = .ok (.bipush 12, 2) := by decide +kernel
theorem dX13_init_7 : decode cX13_init 7 = .ok (.newarray .int, 2) := by decide +kernel
theorem dX13_init_9 : decode cX13_init 9 = .ok (.putfield 7, 3) := by decide +kernel
theorem dX13_init_12 : decode cX13_init 12 = .ok (.aload_n 0, 1) := by decide +kernel
theorem dX13_init_13 : decode cX13_init 13 = .ok (.bipush 12, 2) := by decide +kernel
theorem dX13_init_15 : decode cX13_init 15 = .ok (.anewarray 13, 3) := by decide +kernel
theorem dX13_init_18 : decode cX13_init 18 = .ok (.putfield 15, 3) := by decide +kernel
theorem dX13_init_21 : decode cX13_init 21 = .ok (.return_, 1) := by decide +kernel
theorem dX14_init_0 : decode cX14_init 0 = .ok (.aload_n 0, 1) := by decide +kernel
theorem dX14_init_1 : decode cX14_init 1 = .ok (.invokespecial 1, 3) := by decide +kernel
theorem dX14_init_4 : decode cX14_init 4 = .ok (.aload_n 0, 1) := by decide +kernel
theorem dX14_init_5 : decode cX14_init 5 = .ok (.iconst 4, 1) := by decide +kernel
theorem dX14_init_6 : decode cX14_init 6 = .ok (.anewarray 7, 3) := by decide +kernel
theorem dX14_init_9 : decode cX14_init 9 = .ok (.putfield 9, 3) := by decide +kernel
theorem dX14_init_12 : decode cX14_init 12 = .ok (.return_, 1) := by decide +kernel
theorem dX15_init_0 : decode cX15_init 0 = .ok (.aload_n 0, 1) := by decide +kernel
theorem dX15_init_1 : decode cX15_init 1 = .ok (.invokespecial 1, 3) := by decide +kernel
theorem dX15_init_4 : decode cX15_init 4 = .ok (.return_, 1) := by decide +kernel
theorem dX16_init_0 : decode cX16_init 0 = .ok (.aload_n 0, 1) := by decide +kernel
theorem dX16_init_1 : decode cX16_init 1 = .ok (.invokespecial 1, 3) := by decide +kernel
theorem dX16_init_4 : decode cX16_init 4 = .ok (.aload_n 0, 1) := by decide +kernel
theorem dX16_init_5 : decode cX16_init 5 = .ok (.bipush 13, 2) := by decide +kernel
theorem dX16_init_7 : decode cX16_init 7 = .ok (.newarray .int, 2) := by decide +kernel
theorem dX16_init_9 : decode cX16_init 9 = .ok (.putfield 7, 3) := by decide +kernel
theorem dX16_init_12 : decode cX16_init 12 = .ok (.return_, 1) := by decide +kernel
theorem dX17_init_0 : decode cX17_init 0 = .ok (.aload_n 0, 1) := by decide +kernel
theorem dX17_init_1 : decode cX17_init 1 = .ok (.invokespecial 1, 3) := by decide +kernel
theorem dX17_init_4 : decode cX17_init 4 = .ok (.return_, 1) := by decide +kernel
theorem dX19_init_0 : decode cX19_init 0 = .ok (.aload_n 0, 1) := by decide +kernel
theorem dX19_init_1 : decode cX19_init 1 = .ok (.invokespecial 1, 3) := by decide +kernel
theorem dX19_init_4 : decode cX19_init 4 = .ok (.return_, 1) := by decide +kernel
theorem dX20_init_0 : decode cX20_init 0 = .ok (.aload_n 0, 1) := by decide +kernel
theorem dX20_init_1 : decode cX20_init 1 = .ok (.invokespecial 1, 3) := by decide +kernel
theorem dX20_init_4 : decode cX20_init 4 = .ok (.return_, 1) := by decide +kernel
theorem dX21_init_0 : decode cX21_init 0 = .ok (.aload_n 0, 1) := by decide +kernel
theorem dX21_init_1 : decode cX21_init 1 = .ok (.invokespecial 1, 3) := by decide +kernel
theorem dX21_init_4 : decode cX21_init 4 = .ok (.return_, 1) := by decide +kernel
theorem dX22_init_0 : decode cX22_init 0 = .ok (.aload_n 0, 1) := by decide +kernel
theorem dX22_init_1 : decode cX22_init 1 = .ok (.invokespecial 1, 3) := by decide +kernel
theorem dX22_init_4 : decode cX22_init 4 = .ok (.aload_n 0, 1) := by decide +kernel
theorem dX22_init_5 : decode cX22_init 5 = .ok (.iconst (-1), 1) := by decide +kernel
theorem dX22_init_6 : decode cX22_init 6 = .ok (.putfield 7, 3) := by decide +kernel
theorem dX22_init_9 : decode cX22_init 9 = .ok (.return_, 1) := by decide +kernel
