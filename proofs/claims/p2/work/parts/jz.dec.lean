theorem eX23_ok_0 : decode cX23_ok 0 = .ok (.aload_n 0, 1) := by decide +kernel
theorem eX23_ok_1 : decode cX23_ok 1 = .ok (.getfield 80, 3) := by decide +kernel
theorem eX23_ok_4 : decode cX23_ok 4 = .ok (.ifCond .ne 7, 3) := by decide +kernel
theorem eX23_ok_7 : decode cX23_ok 7 = .ok (.iconst 1, 1) := by decide +kernel
theorem eX23_ok_8 : decode cX23_ok 8 = .ok (.goto 4, 3) := by decide +kernel
theorem eX23_ok_11 : decode cX23_ok 11 = .ok (.iconst 0, 1) := by decide +kernel
theorem eX23_ok_12 : decode cX23_ok 12 = .ok (.ireturn, 1) := by decide +kernel
theorem eX23_fail_0 : decode cX23_fail 0 = .ok (.aload_n 0, 1) := by decide +kernel
theorem eX23_fail_1 : decode cX23_fail 1 = .ok (.getfield 80, 3) := by decide +kernel
theorem eX23_fail_4 : decode cX23_fail 4 = .ok (.ifCond .eq 4, 3) := by decide +kernel
theorem eX23_fail_7 : decode cX23_fail 7 = .ok (.return_, 1) := by decide +kernel
theorem eX23_fail_8 : decode cX23_fail 8 = .ok (.aload_n 0, 1) := by decide +kernel
theorem eX23_fail_9 : decode cX23_fail 9 = .ok (.iload_n 1, 1) := by decide +kernel
theorem eX23_fail_10 : decode cX23_fail 10 = .ok (.putfield 80, 3) := by decide +kernel
theorem eX23_fail_13 : decode cX23_fail 13 = .ok (.aload_n 0, 1) := by decide +kernel
theorem eX23_fail_14 : decode cX23_fail 14 = .ok (.aload_n 0, 1) := by decide +kernel
theorem eX23_fail_15 : decode cX23_fail 15 = .ok (.getfield 31, 3) := by decide +kernel
theorem eX23_fail_18 : decode cX23_fail 18 = .ok (.iload_n 2, 1) := by decide +kernel
theorem eX23_fail_19 : decode cX23_fail 19 = .ok (.iaload, 1) := by decide +kernel
theorem eX23_fail_20 : decode cX23_fail 20 = .ok (.putfield 83, 3) := by decide +kernel
theorem eX23_fail_23 : decode cX23_fail 23 = .ok (.return_, 1) := by decide +kernel
theorem eX23_sameName_0 : decode cX23_sameName 0 = .ok (.aload_n 0, 1) := by decide +kernel
theorem eX23_sameName_1 : decode cX23_sameName 1 = .ok (.getfield 34, 3) := by decide +kernel
theorem eX23_sameName_4 : decode cX23_sameName 4 = .ok (.iload_n 1, 1) := by decide +kernel
theorem eX23_sameName_5 : decode cX23_sameName 5 = .ok (.iaload, 1) := by decide +kernel
theorem eX23_sameName_6 : decode cX23_sameName 6 = .ok (.aload_n 0, 1) := by decide +kernel
theorem eX23_sameName_7 : decode cX23_sameName 7 = .ok (.getfield 31, 3) := by decide +kernel
theorem eX23_sameName_10 : decode cX23_sameName 10 = .ok (.iload_n 1, 1) := by decide +kernel
theorem eX23_sameName_11 : decode cX23_sameName 11 = .ok (.iaload, 1) := by decide +kernel
theorem eX23_sameName_12 : decode cX23_sameName 12 = .ok (.isub, 1) := by decide +kernel
theorem eX23_sameName_13 : decode cX23_sameName 13 = .ok (.istore_n 3, 1) := by decide +kernel
theorem eX23_sameName_14 : decode cX23_sameName 14 = .ok (.aload_n 0, 1) := by decide +kernel
theorem eX23_sameName_15 : decode cX23_sameName 15 = .ok (.getfield 34, 3) := by decide +kernel
theorem eX23_sameName_18 : decode cX23_sameName 18 = .ok (.iload_n 2, 1) := by decide +kernel
theorem eX23_sameName_19 : decode cX23_sameName 19 = .ok (.iaload, 1) := by decide +kernel
theorem eX23_sameName_20 : decode cX23_sameName 20 = .ok (.aload_n 0, 1) := by decide +kernel
theorem eX23_sameName_21 : decode cX23_sameName 21 = .ok (.getfield 31, 3) := by decide +kernel
theorem eX23_sameName_24 : decode cX23_sameName 24 = .ok (.iload_n 2, 1) := by decide +kernel
theorem eX23_sameName_25 : decode cX23_sameName 25 = .ok (.iaload, 1) := by decide +kernel
theorem eX23_sameName_26 : decode cX23_sameName 26 = .ok (.isub, 1) := by decide +kernel
theorem eX23_sameName_27 : decode cX23_sameName 27 = .ok (.iload_n 3, 1) := by decide +kernel
theorem eX23_sameName_28 : decode cX23_sameName 28 = .ok (.if_icmp .eq 5, 3) := by decide +kernel
theorem eX23_sameName_31 : decode cX23_sameName 31 = .ok (.iconst 0, 1) := by decide +kernel
theorem eX23_sameName_32 : decode cX23_sameName 32 = .ok (.ireturn, 1) := by decide +kernel
theorem eX23_sameName_33 : decode cX23_sameName 33 = .ok (.iconst 0, 1) := by decide +kernel
theorem eX23_sameName_34 : decode cX23_sameName 34 = .ok (.istore 4, 2) := by decide +kernel
theorem eX23_sameName_36 : decode cX23_sameName 36 = .ok (.iload 4, 2) := by decide +kernel
theorem eX23_sameName_38 : decode cX23_sameName 38 = .ok (.iload_n 3, 1) := by decide +kernel
theorem eX23_sameName_39 : decode cX23_sameName 39 = .ok (.if_icmp .ge 42, 3) := by decide +kernel
theorem eX23_sameName_42 : decode cX23_sameName 42 = .ok (.aload_n 0, 1) := by decide +kernel
theorem eX23_sameName_43 : decode cX23_sameName 43 = .ok (.getfield 7, 3) := by decide +kernel
theorem eX23_sameName_46 : decode cX23_sameName 46 = .ok (.aload_n 0, 1) := by decide +kernel
theorem eX23_sameName_47 : decode cX23_sameName 47 = .ok (.getfield 31, 3) := by decide +kernel
theorem eX23_sameName_50 : decode cX23_sameName 50 = .ok (.iload_n 1, 1) := by decide +kernel
theorem eX23_sameName_51 : decode cX23_sameName 51 = .ok (.iaload, 1) := by decide +kernel
theorem eX23_sameName_52 : decode cX23_sameName 52 = .ok (.iload 4, 2) := by decide +kernel
theorem eX23_sameName_54 : decode cX23_sameName 54 = .ok (.iadd, 1) := by decide +kernel
theorem eX23_sameName_55 : decode cX23_sameName 55 = .ok (.iaload, 1) := by decide +kernel
theorem eX23_sameName_56 : decode cX23_sameName 56 = .ok (.aload_n 0, 1) := by decide +kernel
theorem eX23_sameName_57 : decode cX23_sameName 57 = .ok (.getfield 7, 3) := by decide +kernel
theorem eX23_sameName_60 : decode cX23_sameName 60 = .ok (.aload_n 0, 1) := by decide +kernel
theorem eX23_sameName_61 : decode cX23_sameName 61 = .ok (.getfield 31, 3) := by decide +kernel
theorem eX23_sameName_64 : decode cX23_sameName 64 = .ok (.iload_n 2, 1) := by decide +kernel
theorem eX23_sameName_65 : decode cX23_sameName 65 = .ok (.iaload, 1) := by decide +kernel
theorem eX23_sameName_66 : decode cX23_sameName 66 = .ok (.iload 4, 2) := by decide +kernel
theorem eX23_sameName_68 : decode cX23_sameName 68 = .ok (.iadd, 1) := by decide +kernel
theorem eX23_sameName_69 : decode cX23_sameName 69 = .ok (.iaload, 1) := by decide +kernel
theorem eX23_sameName_70 : decode cX23_sameName 70 = .ok (.if_icmp .eq 5, 3) := by decide +kernel
theorem eX23_sameName_73 : decode cX23_sameName 73 = .ok (.iconst 0, 1) := by decide +kernel
theorem eX23_sameName_74 : decode cX23_sameName 74 = .ok (.ireturn, 1) := by decide +kernel
theorem eX23_sameName_75 : decode cX23_sameName 75 = .ok (.iinc 4 1, 3) := by decide +kernel
theorem eX23_sameName_78 : decode cX23_sameName 78 = .ok (.goto (-42), 3) := by decide +kernel
theorem eX23_sameName_81 : decode cX23_sameName 81 = .ok (.iconst 1, 1) := by decide +kernel
theorem eX23_sameName_82 : decode cX23_sameName 82 = .ok (.ireturn, 1) := by decide +kernel
theorem eX23_isMain_0 : decode cX23_isMain 0 = .ok (.aload_n 0, 1) := by decide +kernel
theorem eX23_isMain_1 : decode cX23_isMain 1 = .ok (.getfield 31, 3) := by decide +kernel
theorem eX23_isMain_4 : decode cX23_isMain 4 = .ok (.iload_n 1, 1) := by decide +kernel
theorem eX23_isMain_5 : decode cX23_isMain 5 = .ok (.iaload, 1) := by decide +kernel
theorem eX23_isMain_6 : decode cX23_isMain 6 = .ok (.istore_n 2, 1) := by decide +kernel
theorem eX23_isMain_7 : decode cX23_isMain 7 = .ok (.aload_n 0, 1) := by decide +kernel
theorem eX23_isMain_8 : decode cX23_isMain 8 = .ok (.getfield 34, 3) := by decide +kernel
theorem eX23_isMain_11 : decode cX23_isMain 11 = .ok (.iload_n 1, 1) := by decide +kernel
theorem eX23_isMain_12 : decode cX23_isMain 12 = .ok (.iaload, 1) := by decide +kernel
theorem eX23_isMain_13 : decode cX23_isMain 13 = .ok (.iload_n 2, 1) := by decide +kernel
theorem eX23_isMain_14 : decode cX23_isMain 14 = .ok (.isub, 1) := by decide +kernel
theorem eX23_isMain_15 : decode cX23_isMain 15 = .ok (.iconst 4, 1) := by decide +kernel
theorem eX23_isMain_16 : decode cX23_isMain 16 = .ok (.if_icmp .ne 57, 3) := by decide +kernel
theorem eX23_isMain_19 : decode cX23_isMain 19 = .ok (.aload_n 0, 1) := by decide +kernel
theorem eX23_isMain_20 : decode cX23_isMain 20 = .ok (.getfield 7, 3) := by decide +kernel
theorem eX23_isMain_23 : decode cX23_isMain 23 = .ok (.iload_n 2, 1) := by decide +kernel
theorem eX23_isMain_24 : decode cX23_isMain 24 = .ok (.iaload, 1) := by decide +kernel
theorem eX23_isMain_25 : decode cX23_isMain 25 = .ok (.bipush 109, 2) := by decide +kernel
theorem eX23_isMain_27 : decode cX23_isMain 27 = .ok (.if_icmp .ne 46, 3) := by decide +kernel
theorem eX23_isMain_30 : decode cX23_isMain 30 = .ok (.aload_n 0, 1) := by decide +kernel
theorem eX23_isMain_31 : decode cX23_isMain 31 = .ok (.getfield 7, 3) := by decide +kernel
theorem eX23_isMain_34 : decode cX23_isMain 34 = .ok (.iload_n 2, 1) := by decide +kernel
theorem eX23_isMain_35 : decode cX23_isMain 35 = .ok (.iconst 1, 1) := by decide +kernel
theorem eX23_isMain_36 : decode cX23_isMain 36 = .ok (.iadd, 1) := by decide +kernel
theorem eX23_isMain_37 : decode cX23_isMain 37 = .ok (.iaload, 1) := by decide +kernel
theorem eX23_isMain_38 : decode cX23_isMain 38 = .ok (.bipush 97, 2) := by decide +kernel
theorem eX23_isMain_40 : decode cX23_isMain 40 = .ok (.if_icmp .ne 33, 3) := by decide +kernel
theorem eX23_isMain_43 : decode cX23_isMain 43 = .ok (.aload_n 0, 1) := by decide +kernel
theorem eX23_isMain_44 : decode cX23_isMain 44 = .ok (.getfield 7, 3) := by decide +kernel
theorem eX23_isMain_47 : decode cX23_isMain 47 = .ok (.iload_n 2, 1) := by decide +kernel
theorem eX23_isMain_48 : decode cX23_isMain 48 = .ok (.iconst 2, 1) := by decide +kernel
theorem eX23_isMain_49 : decode cX23_isMain 49 = .ok (.iadd, 1) := by decide +kernel
theorem eX23_isMain_50 : decode cX23_isMain 50 = .ok (.iaload, 1) := by decide +kernel
theorem eX23_isMain_51 : decode cX23_isMain 51 = .ok (.bipush 105, 2) := by decide +kernel
theorem eX23_isMain_53 : decode cX23_isMain 53 = .ok (.if_icmp .ne 20, 3) := by decide +kernel
theorem eX23_isMain_56 : decode cX23_isMain 56 = .ok (.aload_n 0, 1) := by decide +kernel
theorem eX23_isMain_57 : decode cX23_isMain 57 = .ok (.getfield 7, 3) := by decide +kernel
theorem eX23_isMain_60 : decode cX23_isMain 60 = .ok (.iload_n 2, 1) := by decide +kernel
theorem eX23_isMain_61 : decode cX23_isMain 61 = .ok (.iconst 3, 1) := by decide +kernel
theorem eX23_isMain_62 : decode cX23_isMain 62 = .ok (.iadd, 1) := by decide +kernel
theorem eX23_isMain_63 : decode cX23_isMain 63 = .ok (.iaload, 1) := by decide +kernel
theorem eX23_isMain_64 : decode cX23_isMain 64 = .ok (.bipush 110, 2) := by decide +kernel
theorem eX23_isMain_66 : decode cX23_isMain 66 = .ok (.if_icmp .ne 7, 3) := by decide +kernel
theorem eX23_isMain_69 : decode cX23_isMain 69 = .ok (.iconst 1, 1) := by decide +kernel
theorem eX23_isMain_70 : decode cX23_isMain 70 = .ok (.goto 4, 3) := by decide +kernel
theorem eX23_isMain_73 : decode cX23_isMain 73 = .ok (.iconst 0, 1) := by decide +kernel
theorem eX23_isMain_74 : decode cX23_isMain 74 = .ok (.ireturn, 1) := by decide +kernel
theorem eX23_is_0 : decode cX23_is 0 = .ok (.aload_n 0, 1) := by decide +kernel
theorem eX23_is_1 : decode cX23_is 1 = .ok (.getfield 25, 3) := by decide +kernel
theorem eX23_is_4 : decode cX23_is 4 = .ok (.aload_n 0, 1) := by decide +kernel
theorem eX23_is_5 : decode cX23_is 5 = .ok (.getfield 86, 3) := by decide +kernel
theorem eX23_is_8 : decode cX23_is 8 = .ok (.iaload, 1) := by decide +kernel
theorem eX23_is_9 : decode cX23_is 9 = .ok (.iload_n 1, 1) := by decide +kernel
theorem eX23_is_10 : decode cX23_is 10 = .ok (.if_icmp .ne 7, 3) := by decide +kernel
theorem eX23_is_13 : decode cX23_is 13 = .ok (.iconst 1, 1) := by decide +kernel
theorem eX23_is_14 : decode cX23_is 14 = .ok (.goto 4, 3) := by decide +kernel
theorem eX23_is_17 : decode cX23_is 17 = .ok (.iconst 0, 1) := by decide +kernel
theorem eX23_is_18 : decode cX23_is 18 = .ok (.ireturn, 1) := by decide +kernel
theorem eX23_take_0 : decode cX23_take 0 = .ok (.aload_n 0, 1) := by decide +kernel
theorem eX23_take_1 : decode cX23_take 1 = .ok (.invokevirtual 89, 3) := by decide +kernel
theorem eX23_take_4 : decode cX23_take 4 = .ok (.ifCond .ne 4, 3) := by decide +kernel
theorem eX23_take_7 : decode cX23_take 7 = .ok (.return_, 1) := by decide +kernel
theorem eX23_take_8 : decode cX23_take 8 = .ok (.aload_n 0, 1) := by decide +kernel
theorem eX23_take_9 : decode cX23_take 9 = .ok (.iload_n 1, 1) := by decide +kernel
theorem eX23_take_10 : decode cX23_take 10 = .ok (.invokevirtual 93, 3) := by decide +kernel
theorem eX23_take_13 : decode cX23_take 13 = .ok (.ifCond .eq 16, 3) := by decide +kernel
theorem eX23_take_16 : decode cX23_take 16 = .ok (.aload_n 0, 1) := by decide +kernel
theorem eX23_take_17 : decode cX23_take 17 = .ok (.dup, 1) := by decide +kernel
theorem eX23_take_18 : decode cX23_take 18 = .ok (.getfield 86, 3) := by decide +kernel
theorem eX23_take_21 : decode cX23_take 21 = .ok (.iconst 1, 1) := by decide +kernel
theorem eX23_take_22 : decode cX23_take 22 = .ok (.iadd, 1) := by decide +kernel
theorem eX23_take_23 : decode cX23_take 23 = .ok (.putfield 86, 3) := by decide +kernel
theorem eX23_take_26 : decode cX23_take 26 = .ok (.goto 12, 3) := by decide +kernel
theorem eX23_take_29 : decode cX23_take 29 = .ok (.aload_n 0, 1) := by decide +kernel
theorem eX23_take_30 : decode cX23_take 30 = .ok (.iconst 1, 1) := by decide +kernel
theorem eX23_take_31 : decode cX23_take 31 = .ok (.aload_n 0, 1) := by decide +kernel
theorem eX23_take_32 : decode cX23_take 32 = .ok (.getfield 86, 3) := by decide +kernel
theorem eX23_take_35 : decode cX23_take 35 = .ok (.invokevirtual 96, 3) := by decide +kernel
theorem eX23_take_38 : decode cX23_take 38 = .ok (.return_, 1) := by decide +kernel
theorem eX23_takes_0 : decode cX23_takes 0 = .ok (.aload_n 0, 1) := by decide +kernel
theorem eX23_takes_1 : decode cX23_takes 1 = .ok (.invokevirtual 89, 3) := by decide +kernel
theorem eX23_takes_4 : decode cX23_takes 4 = .ok (.ifCond .eq 11, 3) := by decide +kernel
theorem eX23_takes_7 : decode cX23_takes 7 = .ok (.aload_n 0, 1) := by decide +kernel
theorem eX23_takes_8 : decode cX23_takes 8 = .ok (.iload_n 1, 1) := by decide +kernel
theorem eX23_takes_9 : decode cX23_takes 9 = .ok (.invokevirtual 93, 3) := by decide +kernel
theorem eX23_takes_12 : decode cX23_takes 12 = .ok (.ifCond .ne 5, 3) := by decide +kernel
theorem eX23_takes_15 : decode cX23_takes 15 = .ok (.iconst 0, 1) := by decide +kernel
theorem eX23_takes_16 : decode cX23_takes 16 = .ok (.ireturn, 1) := by decide +kernel
theorem eX23_takes_17 : decode cX23_takes 17 = .ok (.aload_n 0, 1) := by decide +kernel
theorem eX23_takes_18 : decode cX23_takes 18 = .ok (.dup, 1) := by decide +kernel
theorem eX23_takes_19 : decode cX23_takes 19 = .ok (.getfield 86, 3) := by decide +kernel
theorem eX23_takes_22 : decode cX23_takes 22 = .ok (.iconst 1, 1) := by decide +kernel
theorem eX23_takes_23 : decode cX23_takes 23 = .ok (.iadd, 1) := by decide +kernel
theorem eX23_takes_24 : decode cX23_takes 24 = .ok (.putfield 86, 3) := by decide +kernel
theorem eX23_takes_27 : decode cX23_takes 27 = .ok (.iconst 1, 1) := by decide +kernel
theorem eX23_takes_28 : decode cX23_takes 28 = .ok (.ireturn, 1) := by decide +kernel
theorem eX23_name_0 : decode cX23_name 0 = .ok (.aload_n 0, 1) := by decide +kernel
theorem eX23_name_1 : decode cX23_name 1 = .ok (.iconst 2, 1) := by decide +kernel
theorem eX23_name_2 : decode cX23_name 2 = .ok (.invokevirtual 100, 3) := by decide +kernel
theorem eX23_name_5 : decode cX23_name 5 = .ok (.aload_n 0, 1) := by decide +kernel
theorem eX23_name_6 : decode cX23_name 6 = .ok (.getfield 86, 3) := by decide +kernel
theorem eX23_name_9 : decode cX23_name 9 = .ok (.iconst 1, 1) := by decide +kernel
theorem eX23_name_10 : decode cX23_name 10 = .ok (.isub, 1) := by decide +kernel
theorem eX23_name_11 : decode cX23_name 11 = .ok (.ireturn, 1) := by decide +kernel
theorem eX23_enter_0 : decode cX23_enter 0 = .ok (.aload_n 0, 1) := by decide +kernel
theorem eX23_enter_1 : decode cX23_enter 1 = .ok (.invokevirtual 89, 3) := by decide +kernel
theorem eX23_enter_4 : decode cX23_enter 4 = .ok (.ifCond .eq 18, 3) := by decide +kernel
theorem eX23_enter_7 : decode cX23_enter 7 = .ok (.aload_n 0, 1) := by decide +kernel
theorem eX23_enter_8 : decode cX23_enter 8 = .ok (.getfield 104, 3) := by decide +kernel
theorem eX23_enter_11 : decode cX23_enter 11 = .ok (.bipush 16, 2) := by decide +kernel
theorem eX23_enter_13 : decode cX23_enter 13 = .ok (.if_icmp .ne 9, 3) := by decide +kernel
theorem eX23_enter_16 : decode cX23_enter 16 = .ok (.aload_n 0, 1) := by decide +kernel
theorem eX23_enter_17 : decode cX23_enter 17 = .ok (.iconst 2, 1) := by decide +kernel
theorem eX23_enter_18 : decode cX23_enter 18 = .ok (.iload_n 1, 1) := by decide +kernel
theorem eX23_enter_19 : decode cX23_enter 19 = .ok (.invokevirtual 96, 3) := by decide +kernel
theorem eX23_enter_22 : decode cX23_enter 22 = .ok (.aload_n 0, 1) := by decide +kernel
theorem eX23_enter_23 : decode cX23_enter 23 = .ok (.dup, 1) := by decide +kernel
theorem eX23_enter_24 : decode cX23_enter 24 = .ok (.getfield 104, 3) := by decide +kernel
theorem eX23_enter_27 : decode cX23_enter 27 = .ok (.iconst 1, 1) := by decide +kernel
theorem eX23_enter_28 : decode cX23_enter 28 = .ok (.iadd, 1) := by decide +kernel
theorem eX23_enter_29 : decode cX23_enter 29 = .ok (.putfield 104, 3) := by decide +kernel
theorem eX23_enter_32 : decode cX23_enter 32 = .ok (.return_, 1) := by decide +kernel
theorem eX23_limit_0 : decode cX23_limit 0 = .ok (.aload_n 0, 1) := by decide +kernel
theorem eX23_limit_1 : decode cX23_limit 1 = .ok (.invokevirtual 89, 3) := by decide +kernel
theorem eX23_limit_4 : decode cX23_limit 4 = .ok (.ifCond .eq 25, 3) := by decide +kernel
theorem eX23_limit_7 : decode cX23_limit 7 = .ok (.aload_n 0, 1) := by decide +kernel
theorem eX23_limit_8 : decode cX23_limit 8 = .ok (.iconst 2, 1) := by decide +kernel
theorem eX23_limit_9 : decode cX23_limit 9 = .ok (.invokevirtual 93, 3) := by decide +kernel
theorem eX23_limit_12 : decode cX23_limit 12 = .ok (.ifCond .eq 17, 3) := by decide +kernel
theorem eX23_limit_15 : decode cX23_limit 15 = .ok (.iload_n 1, 1) := by decide +kernel
theorem eX23_limit_16 : decode cX23_limit 16 = .ok (.iload_n 2, 1) := by decide +kernel
theorem eX23_limit_17 : decode cX23_limit 17 = .ok (.if_icmp .ne 12, 3) := by decide +kernel
theorem eX23_limit_20 : decode cX23_limit 20 = .ok (.aload_n 0, 1) := by decide +kernel
theorem eX23_limit_21 : decode cX23_limit 21 = .ok (.iconst 2, 1) := by decide +kernel
theorem eX23_limit_22 : decode cX23_limit 22 = .ok (.aload_n 0, 1) := by decide +kernel
theorem eX23_limit_23 : decode cX23_limit 23 = .ok (.getfield 86, 3) := by decide +kernel
theorem eX23_limit_26 : decode cX23_limit 26 = .ok (.invokevirtual 96, 3) := by decide +kernel
theorem eX23_limit_29 : decode cX23_limit 29 = .ok (.return_, 1) := by decide +kernel
theorem eX22_init_0 : decode cX22_init 0 = .ok (.aload_n 0, 1) := by decide +kernel
theorem eX22_init_1 : decode cX22_init 1 = .ok (.invokespecial 1, 3) := by decide +kernel
theorem eX22_init_4 : decode cX22_init 4 = .ok (.aload_n 0, 1) := by decide +kernel
theorem eX22_init_5 : decode cX22_init 5 = .ok (.iconst (-1), 1) := by decide +kernel
theorem eX22_init_6 : decode cX22_init 6 = .ok (.putfield 7, 3) := by decide +kernel
theorem eX22_init_9 : decode cX22_init 9 = .ok (.return_, 1) := by decide +kernel
theorem eX23_written_0 : decode cX23_written 0 = .ok (.new 107, 3) := by decide +kernel
theorem eX23_written_3 : decode cX23_written 3 = .ok (.dup, 1) := by decide +kernel
theorem eX23_written_4 : decode cX23_written 4 = .ok (.invokespecial 109, 3) := by decide +kernel
theorem eX23_written_7 : decode cX23_written 7 = .ok (.astore_n 1, 1) := by decide +kernel
theorem eX23_written_8 : decode cX23_written 8 = .ok (.aload_n 0, 1) := by decide +kernel
theorem eX23_written_9 : decode cX23_written 9 = .ok (.invokevirtual 89, 3) := by decide +kernel
theorem eX23_written_12 : decode cX23_written 12 = .ok (.ifCond .ne 5, 3) := by decide +kernel
theorem eX23_written_15 : decode cX23_written 15 = .ok (.aload_n 1, 1) := by decide +kernel
theorem eX23_written_16 : decode cX23_written 16 = .ok (.areturn, 1) := by decide +kernel
theorem eX23_written_17 : decode cX23_written 17 = .ok (.aload_n 1, 1) := by decide +kernel
theorem eX23_written_18 : decode cX23_written 18 = .ok (.aload_n 0, 1) := by decide +kernel
theorem eX23_written_19 : decode cX23_written 19 = .ok (.getfield 86, 3) := by decide +kernel
theorem eX23_written_22 : decode cX23_written 22 = .ok (.putfield 113, 3) := by decide +kernel
theorem eX23_written_25 : decode cX23_written 25 = .ok (.aload_n 1, 1) := by decide +kernel
theorem eX23_written_26 : decode cX23_written 26 = .ok (.aload_n 0, 1) := by decide +kernel
theorem eX23_written_27 : decode cX23_written 27 = .ok (.getfield 25, 3) := by decide +kernel
theorem eX23_written_30 : decode cX23_written 30 = .ok (.aload_n 0, 1) := by decide +kernel
theorem eX23_written_31 : decode cX23_written 31 = .ok (.getfield 86, 3) := by decide +kernel
theorem eX23_written_34 : decode cX23_written 34 = .ok (.iaload, 1) := by decide +kernel
theorem eX23_written_35 : decode cX23_written 35 = .ok (.putfield 116, 3) := by decide +kernel
theorem eX23_written_38 : decode cX23_written 38 = .ok (.aload_n 0, 1) := by decide +kernel
theorem eX23_written_39 : decode cX23_written 39 = .ok (.bipush 23, 2) := by decide +kernel
theorem eX23_written_41 : decode cX23_written 41 = .ok (.invokevirtual 93, 3) := by decide +kernel
theorem eX23_written_44 : decode cX23_written 44 = .ok (.ifCond .ne 12, 3) := by decide +kernel
theorem eX23_written_47 : decode cX23_written 47 = .ok (.aload_n 0, 1) := by decide +kernel
theorem eX23_written_48 : decode cX23_written 48 = .ok (.bipush 55, 2) := by decide +kernel
theorem eX23_written_50 : decode cX23_written 50 = .ok (.invokevirtual 93, 3) := by decide +kernel
theorem eX23_written_53 : decode cX23_written 53 = .ok (.ifCond .eq 104, 3) := by decide +kernel
theorem eX23_written_56 : decode cX23_written 56 = .ok (.aload_n 0, 1) := by decide +kernel
theorem eX23_written_57 : decode cX23_written 57 = .ok (.aload_n 0, 1) := by decide +kernel
theorem eX23_written_58 : decode cX23_written 58 = .ok (.getfield 86, 3) := by decide +kernel
theorem eX23_written_61 : decode cX23_written 61 = .ok (.invokevirtual 119, 3) := by decide +kernel
theorem eX23_written_64 : decode cX23_written 64 = .ok (.aload_n 0, 1) := by decide +kernel
theorem eX23_written_65 : decode cX23_written 65 = .ok (.bipush 55, 2) := by decide +kernel
theorem eX23_written_67 : decode cX23_written 67 = .ok (.invokevirtual 93, 3) := by decide +kernel
theorem eX23_written_70 : decode cX23_written 70 = .ok (.istore_n 2, 1) := by decide +kernel
theorem eX23_written_71 : decode cX23_written 71 = .ok (.aload_n 0, 1) := by decide +kernel
theorem eX23_written_72 : decode cX23_written 72 = .ok (.dup, 1) := by decide +kernel
theorem eX23_written_73 : decode cX23_written 73 = .ok (.getfield 86, 3) := by decide +kernel
theorem eX23_written_76 : decode cX23_written 76 = .ok (.iconst 1, 1) := by decide +kernel
theorem eX23_written_77 : decode cX23_written 77 = .ok (.iadd, 1) := by decide +kernel
theorem eX23_written_78 : decode cX23_written 78 = .ok (.putfield 86, 3) := by decide +kernel
theorem eX23_written_81 : decode cX23_written 81 = .ok (.iload_n 2, 1) := by decide +kernel
theorem eX23_written_82 : decode cX23_written 82 = .ok (.ifCond .eq 36, 3) := by decide +kernel
theorem eX23_written_85 : decode cX23_written 85 = .ok (.aload_n 0, 1) := by decide +kernel
theorem eX23_written_86 : decode cX23_written 86 = .ok (.invokevirtual 89, 3) := by decide +kernel
theorem eX23_written_89 : decode cX23_written 89 = .ok (.ifCond .eq 29, 3) := by decide +kernel
theorem eX23_written_92 : decode cX23_written 92 = .ok (.aload_n 0, 1) := by decide +kernel
theorem eX23_written_93 : decode cX23_written 93 = .ok (.iconst 4, 1) := by decide +kernel
theorem eX23_written_94 : decode cX23_written 94 = .ok (.invokevirtual 93, 3) := by decide +kernel
theorem eX23_written_97 : decode cX23_written 97 = .ok (.ifCond .eq 21, 3) := by decide +kernel
theorem eX23_written_100 : decode cX23_written 100 = .ok (.aload_n 1, 1) := by decide +kernel
theorem eX23_written_101 : decode cX23_written 101 = .ok (.aload_n 0, 1) := by decide +kernel
theorem eX23_written_102 : decode cX23_written 102 = .ok (.getfield 86, 3) := by decide +kernel
theorem eX23_written_105 : decode cX23_written 105 = .ok (.putfield 122, 3) := by decide +kernel
theorem eX23_written_108 : decode cX23_written 108 = .ok (.aload_n 0, 1) := by decide +kernel
theorem eX23_written_109 : decode cX23_written 109 = .ok (.dup, 1) := by decide +kernel
theorem eX23_written_110 : decode cX23_written 110 = .ok (.getfield 86, 3) := by decide +kernel
theorem eX23_written_113 : decode cX23_written 113 = .ok (.iconst 1, 1) := by decide +kernel
theorem eX23_written_114 : decode cX23_written 114 = .ok (.iadd, 1) := by decide +kernel
theorem eX23_written_115 : decode cX23_written 115 = .ok (.putfield 86, 3) := by decide +kernel
theorem eX23_written_118 : decode cX23_written 118 = .ok (.iload_n 2, 1) := by decide +kernel
theorem eX23_written_119 : decode cX23_written 119 = .ok (.ifCond .eq 17, 3) := by decide +kernel
theorem eX23_written_122 : decode cX23_written 122 = .ok (.aload_n 0, 1) := by decide +kernel
theorem eX23_written_123 : decode cX23_written 123 = .ok (.bipush 14, 2) := by decide +kernel
theorem eX23_written_125 : decode cX23_written 125 = .ok (.invokevirtual 125, 3) := by decide +kernel
theorem eX23_written_128 : decode cX23_written 128 = .ok (.ifCond .eq 8, 3) := by decide +kernel
theorem eX23_written_131 : decode cX23_written 131 = .ok (.aload_n 1, 1) := by decide +kernel
theorem eX23_written_132 : decode cX23_written 132 = .ok (.iconst 1, 1) := by decide +kernel
theorem eX23_written_133 : decode cX23_written 133 = .ok (.putfield 128, 3) := by decide +kernel
theorem eX23_written_136 : decode cX23_written 136 = .ok (.aload_n 1, 1) := by decide +kernel
theorem eX23_written_137 : decode cX23_written 137 = .ok (.aload_n 0, 1) := by decide +kernel
theorem eX23_written_138 : decode cX23_written 138 = .ok (.invokevirtual 131, 3) := by decide +kernel
theorem eX23_written_141 : decode cX23_written 141 = .ok (.putfield 135, 3) := by decide +kernel
theorem eX23_written_144 : decode cX23_written 144 = .ok (.aload_n 0, 1) := by decide +kernel
theorem eX23_written_145 : decode cX23_written 145 = .ok (.dup, 1) := by decide +kernel
theorem eX23_written_146 : decode cX23_written 146 = .ok (.getfield 104, 3) := by decide +kernel
theorem eX23_written_149 : decode cX23_written 149 = .ok (.iconst 1, 1) := by decide +kernel
theorem eX23_written_150 : decode cX23_written 150 = .ok (.isub, 1) := by decide +kernel
theorem eX23_written_151 : decode cX23_written 151 = .ok (.putfield 104, 3) := by decide +kernel
theorem eX23_written_154 : decode cX23_written 154 = .ok (.goto 60, 3) := by decide +kernel
theorem eX23_written_157 : decode cX23_written 157 = .ok (.aload_n 0, 1) := by decide +kernel
theorem eX23_written_158 : decode cX23_written 158 = .ok (.bipush 26, 2) := by decide +kernel
theorem eX23_written_160 : decode cX23_written 160 = .ok (.invokevirtual 93, 3) := by decide +kernel
theorem eX23_written_163 : decode cX23_written 163 = .ok (.ifCond .ne 29, 3) := by decide +kernel
theorem eX23_written_166 : decode cX23_written 166 = .ok (.aload_n 0, 1) := by decide +kernel
theorem eX23_written_167 : decode cX23_written 167 = .ok (.bipush 27, 2) := by decide +kernel
theorem eX23_written_169 : decode cX23_written 169 = .ok (.invokevirtual 93, 3) := by decide +kernel
theorem eX23_written_172 : decode cX23_written 172 = .ok (.ifCond .ne 20, 3) := by decide +kernel
theorem eX23_written_175 : decode cX23_written 175 = .ok (.aload_n 0, 1) := by decide +kernel
theorem eX23_written_176 : decode cX23_written 176 = .ok (.bipush 25, 2) := by decide +kernel
theorem eX23_written_178 : decode cX23_written 178 = .ok (.invokevirtual 93, 3) := by decide +kernel
theorem eX23_written_181 : decode cX23_written 181 = .ok (.ifCond .ne 11, 3) := by decide +kernel
theorem eX23_written_184 : decode cX23_written 184 = .ok (.aload_n 0, 1) := by decide +kernel
theorem eX23_written_185 : decode cX23_written 185 = .ok (.iconst 2, 1) := by decide +kernel
theorem eX23_written_186 : decode cX23_written 186 = .ok (.invokevirtual 93, 3) := by decide +kernel
theorem eX23_written_189 : decode cX23_written 189 = .ok (.ifCond .eq 16, 3) := by decide +kernel
theorem eX23_written_192 : decode cX23_written 192 = .ok (.aload_n 0, 1) := by decide +kernel
theorem eX23_written_193 : decode cX23_written 193 = .ok (.dup, 1) := by decide +kernel
theorem eX23_written_194 : decode cX23_written 194 = .ok (.getfield 86, 3) := by decide +kernel
theorem eX23_written_197 : decode cX23_written 197 = .ok (.iconst 1, 1) := by decide +kernel
theorem eX23_written_198 : decode cX23_written 198 = .ok (.iadd, 1) := by decide +kernel
theorem eX23_written_199 : decode cX23_written 199 = .ok (.putfield 86, 3) := by decide +kernel
theorem eX23_written_202 : decode cX23_written 202 = .ok (.goto 12, 3) := by decide +kernel
theorem eX23_written_205 : decode cX23_written 205 = .ok (.aload_n 0, 1) := by decide +kernel
theorem eX23_written_206 : decode cX23_written 206 = .ok (.iconst 1, 1) := by decide +kernel
theorem eX23_written_207 : decode cX23_written 207 = .ok (.aload_n 0, 1) := by decide +kernel
theorem eX23_written_208 : decode cX23_written 208 = .ok (.getfield 86, 3) := by decide +kernel
theorem eX23_written_211 : decode cX23_written 211 = .ok (.invokevirtual 96, 3) := by decide +kernel
theorem eX23_written_214 : decode cX23_written 214 = .ok (.aload_n 1, 1) := by decide +kernel
theorem eX23_written_215 : decode cX23_written 215 = .ok (.areturn, 1) := by decide +kernel
theorem eX23_fields_0 : decode cX23_fields 0 = .ok (.aload_n 0, 1) := by decide +kernel
theorem eX23_fields_1 : decode cX23_fields 1 = .ok (.aload_n 1, 1) := by decide +kernel
theorem eX23_fields_2 : decode cX23_fields 2 = .ok (.getfield 139, 3) := by decide +kernel
theorem eX23_fields_5 : decode cX23_fields 5 = .ok (.bipush 12, 2) := by decide +kernel
theorem eX23_fields_7 : decode cX23_fields 7 = .ok (.invokevirtual 144, 3) := by decide +kernel
theorem eX23_fields_10 : decode cX23_fields 10 = .ok (.aload_n 1, 1) := by decide +kernel
theorem eX23_fields_11 : decode cX23_fields 11 = .ok (.getfield 147, 3) := by decide +kernel
theorem eX23_fields_14 : decode cX23_fields 14 = .ok (.aload_n 1, 1) := by decide +kernel
theorem eX23_fields_15 : decode cX23_fields 15 = .ok (.getfield 139, 3) := by decide +kernel
theorem eX23_fields_18 : decode cX23_fields 18 = .ok (.bipush 13, 2) := by decide +kernel
theorem eX23_fields_20 : decode cX23_fields 20 = .ok (.if_icmp .ge 10, 3) := by decide +kernel
theorem eX23_fields_23 : decode cX23_fields 23 = .ok (.aload_n 1, 1) := by decide +kernel
theorem eX23_fields_24 : decode cX23_fields 24 = .ok (.getfield 139, 3) := by decide +kernel
theorem eX23_fields_27 : decode cX23_fields 27 = .ok (.goto 5, 3) := by decide +kernel
theorem eX23_fields_30 : decode cX23_fields 30 = .ok (.bipush 12, 2) := by decide +kernel
theorem eX23_fields_32 : decode cX23_fields 32 = .ok (.aload_n 0, 1) := by decide +kernel
theorem eX23_fields_33 : decode cX23_fields 33 = .ok (.invokevirtual 150, 3) := by decide +kernel
theorem eX23_fields_36 : decode cX23_fields 36 = .ok (.iastore, 1) := by decide +kernel
theorem eX23_fields_37 : decode cX23_fields 37 = .ok (.aload_n 0, 1) := by decide +kernel
theorem eX23_fields_38 : decode cX23_fields 38 = .ok (.bipush 58, 2) := by decide +kernel
theorem eX23_fields_40 : decode cX23_fields 40 = .ok (.invokevirtual 100, 3) := by decide +kernel
theorem eX23_fields_43 : decode cX23_fields 43 = .ok (.aload_n 1, 1) := by decide +kernel
theorem eX23_fields_44 : decode cX23_fields 44 = .ok (.getfield 153, 3) := by decide +kernel
theorem eX23_fields_47 : decode cX23_fields 47 = .ok (.aload_n 1, 1) := by decide +kernel
theorem eX23_fields_48 : decode cX23_fields 48 = .ok (.getfield 139, 3) := by decide +kernel
theorem eX23_fields_51 : decode cX23_fields 51 = .ok (.bipush 13, 2) := by decide +kernel
theorem eX23_fields_53 : decode cX23_fields 53 = .ok (.if_icmp .ge 10, 3) := by decide +kernel
theorem eX23_fields_56 : decode cX23_fields 56 = .ok (.aload_n 1, 1) := by decide +kernel
theorem eX23_fields_57 : decode cX23_fields 57 = .ok (.getfield 139, 3) := by decide +kernel
theorem eX23_fields_60 : decode cX23_fields 60 = .ok (.goto 5, 3) := by decide +kernel
theorem eX23_fields_63 : decode cX23_fields 63 = .ok (.bipush 12, 2) := by decide +kernel
theorem eX23_fields_65 : decode cX23_fields 65 = .ok (.aload_n 0, 1) := by decide +kernel
theorem eX23_fields_66 : decode cX23_fields 66 = .ok (.invokevirtual 131, 3) := by decide +kernel
theorem eX23_fields_69 : decode cX23_fields 69 = .ok (.aastore, 1) := by decide +kernel
theorem eX23_fields_70 : decode cX23_fields 70 = .ok (.aload_n 1, 1) := by decide +kernel
theorem eX23_fields_71 : decode cX23_fields 71 = .ok (.dup, 1) := by decide +kernel
theorem eX23_fields_72 : decode cX23_fields 72 = .ok (.getfield 139, 3) := by decide +kernel
theorem eX23_fields_75 : decode cX23_fields 75 = .ok (.iconst 1, 1) := by decide +kernel
theorem eX23_fields_76 : decode cX23_fields 76 = .ok (.iadd, 1) := by decide +kernel
theorem eX23_fields_77 : decode cX23_fields 77 = .ok (.putfield 139, 3) := by decide +kernel
theorem eX23_fields_80 : decode cX23_fields 80 = .ok (.return_, 1) := by decide +kernel
theorem eX17_init_0 : decode cX17_init 0 = .ok (.aload_n 0, 1) := by decide +kernel
theorem eX17_init_1 : decode cX17_init 1 = .ok (.invokespecial 1, 3) := by decide +kernel
theorem eX17_init_4 : decode cX17_init 4 = .ok (.return_, 1) := by decide +kernel
theorem eX23_variant_0 : decode cX23_variant 0 = .ok (.aload_n 0, 1) := by decide +kernel
theorem eX23_variant_1 : decode cX23_variant 1 = .ok (.aload_n 1, 1) := by decide +kernel
theorem eX23_variant_2 : decode cX23_variant 2 = .ok (.getfield 139, 3) := by decide +kernel
theorem eX23_variant_5 : decode cX23_variant 5 = .ok (.bipush 12, 2) := by decide +kernel
theorem eX23_variant_7 : decode cX23_variant 7 = .ok (.invokevirtual 144, 3) := by decide +kernel
theorem eX23_variant_10 : decode cX23_variant 10 = .ok (.new 156, 3) := by decide +kernel
theorem eX23_variant_13 : decode cX23_variant 13 = .ok (.dup, 1) := by decide +kernel
theorem eX23_variant_14 : decode cX23_variant 14 = .ok (.invokespecial 158, 3) := by decide +kernel
theorem eX23_variant_17 : decode cX23_variant 17 = .ok (.astore_n 2, 1) := by decide +kernel
theorem eX23_variant_18 : decode cX23_variant 18 = .ok (.aload_n 1, 1) := by decide +kernel
theorem eX23_variant_19 : decode cX23_variant 19 = .ok (.getfield 147, 3) := by decide +kernel
theorem eX23_variant_22 : decode cX23_variant 22 = .ok (.aload_n 1, 1) := by decide +kernel
theorem eX23_variant_23 : decode cX23_variant 23 = .ok (.getfield 139, 3) := by decide +kernel
theorem eX23_variant_26 : decode cX23_variant 26 = .ok (.bipush 13, 2) := by decide +kernel
theorem eX23_variant_28 : decode cX23_variant 28 = .ok (.if_icmp .ge 10, 3) := by decide +kernel
theorem eX23_variant_31 : decode cX23_variant 31 = .ok (.aload_n 1, 1) := by decide +kernel
theorem eX23_variant_32 : decode cX23_variant 32 = .ok (.getfield 139, 3) := by decide +kernel
theorem eX23_variant_35 : decode cX23_variant 35 = .ok (.goto 5, 3) := by decide +kernel
theorem eX23_variant_38 : decode cX23_variant 38 = .ok (.bipush 12, 2) := by decide +kernel
theorem eX23_variant_40 : decode cX23_variant 40 = .ok (.aload_n 0, 1) := by decide +kernel
theorem eX23_variant_41 : decode cX23_variant 41 = .ok (.invokevirtual 150, 3) := by decide +kernel
theorem eX23_variant_44 : decode cX23_variant 44 = .ok (.iastore, 1) := by decide +kernel
theorem eX23_variant_45 : decode cX23_variant 45 = .ok (.aload_n 1, 1) := by decide +kernel
theorem eX23_variant_46 : decode cX23_variant 46 = .ok (.getfield 159, 3) := by decide +kernel
theorem eX23_variant_49 : decode cX23_variant 49 = .ok (.aload_n 1, 1) := by decide +kernel
theorem eX23_variant_50 : decode cX23_variant 50 = .ok (.getfield 139, 3) := by decide +kernel
theorem eX23_variant_53 : decode cX23_variant 53 = .ok (.bipush 13, 2) := by decide +kernel
theorem eX23_variant_55 : decode cX23_variant 55 = .ok (.if_icmp .ge 10, 3) := by decide +kernel
theorem eX23_variant_58 : decode cX23_variant 58 = .ok (.aload_n 1, 1) := by decide +kernel
theorem eX23_variant_59 : decode cX23_variant 59 = .ok (.getfield 139, 3) := by decide +kernel
theorem eX23_variant_62 : decode cX23_variant 62 = .ok (.goto 5, 3) := by decide +kernel
theorem eX23_variant_65 : decode cX23_variant 65 = .ok (.bipush 12, 2) := by decide +kernel
theorem eX23_variant_67 : decode cX23_variant 67 = .ok (.aload_n 2, 1) := by decide +kernel
theorem eX23_variant_68 : decode cX23_variant 68 = .ok (.aastore, 1) := by decide +kernel
theorem eX23_variant_69 : decode cX23_variant 69 = .ok (.aload_n 1, 1) := by decide +kernel
theorem eX23_variant_70 : decode cX23_variant 70 = .ok (.dup, 1) := by decide +kernel
theorem eX23_variant_71 : decode cX23_variant 71 = .ok (.getfield 139, 3) := by decide +kernel
theorem eX23_variant_74 : decode cX23_variant 74 = .ok (.iconst 1, 1) := by decide +kernel
theorem eX23_variant_75 : decode cX23_variant 75 = .ok (.iadd, 1) := by decide +kernel
theorem eX23_variant_76 : decode cX23_variant 76 = .ok (.putfield 139, 3) := by decide +kernel
theorem eX23_variant_79 : decode cX23_variant 79 = .ok (.aload_n 0, 1) := by decide +kernel
theorem eX23_variant_80 : decode cX23_variant 80 = .ok (.bipush 61, 2) := by decide +kernel
theorem eX23_variant_82 : decode cX23_variant 82 = .ok (.invokevirtual 125, 3) := by decide +kernel
theorem eX23_variant_85 : decode cX23_variant 85 = .ok (.ifCond .ne 4, 3) := by decide +kernel
theorem eX23_variant_88 : decode cX23_variant 88 = .ok (.return_, 1) := by decide +kernel
theorem eX23_variant_89 : decode cX23_variant 89 = .ok (.aload_n 2, 1) := by decide +kernel
theorem eX23_variant_90 : decode cX23_variant 90 = .ok (.bipush 12, 2) := by decide +kernel
theorem eX23_variant_92 : decode cX23_variant 92 = .ok (.anewarray 107, 3) := by decide +kernel
theorem eX23_variant_95 : decode cX23_variant 95 = .ok (.putfield 163, 3) := by decide +kernel
theorem eX23_variant_98 : decode cX23_variant 98 = .ok (.aload_n 2, 1) := by decide +kernel
theorem eX23_variant_99 : decode cX23_variant 99 = .ok (.bipush 12, 2) := by decide +kernel
theorem eX23_variant_101 : decode cX23_variant 101 = .ok (.anewarray 164, 3) := by decide +kernel
theorem eX23_variant_104 : decode cX23_variant 104 = .ok (.putfield 166, 3) := by decide +kernel
theorem eX23_variant_107 : decode cX23_variant 107 = .ok (.iconst 1, 1) := by decide +kernel
theorem eX23_variant_108 : decode cX23_variant 108 = .ok (.istore_n 3, 1) := by decide +kernel
theorem eX23_variant_109 : decode cX23_variant 109 = .ok (.aload_n 0, 1) := by decide +kernel
theorem eX23_variant_110 : decode cX23_variant 110 = .ok (.invokevirtual 89, 3) := by decide +kernel
theorem eX23_variant_113 : decode cX23_variant 113 = .ok (.ifCond .eq 134, 3) := by decide +kernel
theorem eX23_variant_116 : decode cX23_variant 116 = .ok (.iload_n 3, 1) := by decide +kernel
theorem eX23_variant_117 : decode cX23_variant 117 = .ok (.ifCond .eq 130, 3) := by decide +kernel
theorem eX23_variant_120 : decode cX23_variant 120 = .ok (.aload_n 0, 1) := by decide +kernel
theorem eX23_variant_121 : decode cX23_variant 121 = .ok (.bipush 26, 2) := by decide +kernel
theorem eX23_variant_123 : decode cX23_variant 123 = .ok (.invokevirtual 93, 3) := by decide +kernel
theorem eX23_variant_126 : decode cX23_variant 126 = .ok (.ifCond .ne 47, 3) := by decide +kernel
theorem eX23_variant_129 : decode cX23_variant 129 = .ok (.aload_n 0, 1) := by decide +kernel
theorem eX23_variant_130 : decode cX23_variant 130 = .ok (.bipush 27, 2) := by decide +kernel
theorem eX23_variant_132 : decode cX23_variant 132 = .ok (.invokevirtual 93, 3) := by decide +kernel
theorem eX23_variant_135 : decode cX23_variant 135 = .ok (.ifCond .ne 38, 3) := by decide +kernel
theorem eX23_variant_138 : decode cX23_variant 138 = .ok (.aload_n 0, 1) := by decide +kernel
theorem eX23_variant_139 : decode cX23_variant 139 = .ok (.bipush 25, 2) := by decide +kernel
theorem eX23_variant_141 : decode cX23_variant 141 = .ok (.invokevirtual 93, 3) := by decide +kernel
theorem eX23_variant_144 : decode cX23_variant 144 = .ok (.ifCond .ne 29, 3) := by decide +kernel
theorem eX23_variant_147 : decode cX23_variant 147 = .ok (.aload_n 0, 1) := by decide +kernel
theorem eX23_variant_148 : decode cX23_variant 148 = .ok (.iconst 2, 1) := by decide +kernel
theorem eX23_variant_149 : decode cX23_variant 149 = .ok (.invokevirtual 93, 3) := by decide +kernel
theorem eX23_variant_152 : decode cX23_variant 152 = .ok (.ifCond .ne 21, 3) := by decide +kernel
theorem eX23_variant_155 : decode cX23_variant 155 = .ok (.aload_n 0, 1) := by decide +kernel
theorem eX23_variant_156 : decode cX23_variant 156 = .ok (.bipush 23, 2) := by decide +kernel
theorem eX23_variant_158 : decode cX23_variant 158 = .ok (.invokevirtual 93, 3) := by decide +kernel
theorem eX23_variant_161 : decode cX23_variant 161 = .ok (.ifCond .ne 12, 3) := by decide +kernel
theorem eX23_variant_164 : decode cX23_variant 164 = .ok (.aload_n 0, 1) := by decide +kernel
theorem eX23_variant_165 : decode cX23_variant 165 = .ok (.bipush 55, 2) := by decide +kernel
theorem eX23_variant_167 : decode cX23_variant 167 = .ok (.invokevirtual 93, 3) := by decide +kernel
theorem eX23_variant_170 : decode cX23_variant 170 = .ok (.ifCond .eq 7, 3) := by decide +kernel
theorem eX23_variant_173 : decode cX23_variant 173 = .ok (.iconst 1, 1) := by decide +kernel
theorem eX23_variant_174 : decode cX23_variant 174 = .ok (.goto 4, 3) := by decide +kernel
theorem eX23_variant_177 : decode cX23_variant 177 = .ok (.iconst 0, 1) := by decide +kernel
theorem eX23_variant_178 : decode cX23_variant 178 = .ok (.istore 4, 2) := by decide +kernel
theorem eX23_variant_180 : decode cX23_variant 180 = .ok (.iload 4, 2) := by decide +kernel
theorem eX23_variant_182 : decode cX23_variant 182 = .ok (.ifCond .eq 21, 3) := by decide +kernel
theorem eX23_variant_185 : decode cX23_variant 185 = .ok (.aload_n 2, 1) := by decide +kernel
theorem eX23_variant_186 : decode cX23_variant 186 = .ok (.getfield 170, 3) := by decide +kernel
theorem eX23_variant_189 : decode cX23_variant 189 = .ok (.bipush 12, 2) := by decide +kernel
theorem eX23_variant_191 : decode cX23_variant 191 = .ok (.if_icmp .ne 12, 3) := by decide +kernel
theorem eX23_variant_194 : decode cX23_variant 194 = .ok (.aload_n 0, 1) := by decide +kernel
theorem eX23_variant_195 : decode cX23_variant 195 = .ok (.iconst 2, 1) := by decide +kernel
theorem eX23_variant_196 : decode cX23_variant 196 = .ok (.aload_n 0, 1) := by decide +kernel
theorem eX23_variant_197 : decode cX23_variant 197 = .ok (.getfield 86, 3) := by decide +kernel
theorem eX23_variant_200 : decode cX23_variant 200 = .ok (.invokevirtual 96, 3) := by decide +kernel
theorem eX23_variant_203 : decode cX23_variant 203 = .ok (.aload_n 0, 1) := by decide +kernel
theorem eX23_variant_204 : decode cX23_variant 204 = .ok (.invokevirtual 131, 3) := by decide +kernel
theorem eX23_variant_207 : decode cX23_variant 207 = .ok (.astore 5, 2) := by decide +kernel
theorem eX23_variant_209 : decode cX23_variant 209 = .ok (.aload_n 0, 1) := by decide +kernel
theorem eX23_variant_210 : decode cX23_variant 210 = .ok (.invokevirtual 89, 3) := by decide +kernel
theorem eX23_variant_213 : decode cX23_variant 213 = .ok (.ifCond .eq 14, 3) := by decide +kernel
theorem eX23_variant_216 : decode cX23_variant 216 = .ok (.aload_n 2, 1) := by decide +kernel
theorem eX23_variant_217 : decode cX23_variant 217 = .ok (.getfield 163, 3) := by decide +kernel
theorem eX23_variant_220 : decode cX23_variant 220 = .ok (.aload_n 2, 1) := by decide +kernel
theorem eX23_variant_221 : decode cX23_variant 221 = .ok (.getfield 170, 3) := by decide +kernel
theorem eX23_variant_224 : decode cX23_variant 224 = .ok (.aload 5, 2) := by decide +kernel
theorem eX23_variant_226 : decode cX23_variant 226 = .ok (.aastore, 1) := by decide +kernel
theorem eX23_variant_227 : decode cX23_variant 227 = .ok (.aload_n 2, 1) := by decide +kernel
theorem eX23_variant_228 : decode cX23_variant 228 = .ok (.dup, 1) := by decide +kernel
theorem eX23_variant_229 : decode cX23_variant 229 = .ok (.getfield 170, 3) := by decide +kernel
theorem eX23_variant_232 : decode cX23_variant 232 = .ok (.iconst 1, 1) := by decide +kernel
theorem eX23_variant_233 : decode cX23_variant 233 = .ok (.iadd, 1) := by decide +kernel
theorem eX23_variant_234 : decode cX23_variant 234 = .ok (.putfield 170, 3) := by decide +kernel
theorem eX23_variant_237 : decode cX23_variant 237 = .ok (.aload_n 0, 1) := by decide +kernel
theorem eX23_variant_238 : decode cX23_variant 238 = .ok (.bipush 57, 2) := by decide +kernel
theorem eX23_variant_240 : decode cX23_variant 240 = .ok (.invokevirtual 125, 3) := by decide +kernel
theorem eX23_variant_243 : decode cX23_variant 243 = .ok (.istore_n 3, 1) := by decide +kernel
theorem eX23_variant_244 : decode cX23_variant 244 = .ok (.goto (-135), 3) := by decide +kernel
theorem eX23_variant_247 : decode cX23_variant 247 = .ok (.aload_n 0, 1) := by decide +kernel
theorem eX23_variant_248 : decode cX23_variant 248 = .ok (.bipush 62, 2) := by decide +kernel
theorem eX23_variant_250 : decode cX23_variant 250 = .ok (.invokevirtual 100, 3) := by decide +kernel
theorem eX23_variant_253 : decode cX23_variant 253 = .ok (.return_, 1) := by decide +kernel
theorem eX23_typeItem_0 : decode cX23_typeItem 0 = .ok (.aload_n 0, 1) := by decide +kernel
theorem eX23_typeItem_1 : decode cX23_typeItem 1 = .ok (.getfield 171, 3) := by decide +kernel
theorem eX23_typeItem_4 : decode cX23_typeItem 4 = .ok (.bipush 30, 2) := by decide +kernel
theorem eX23_typeItem_6 : decode cX23_typeItem 6 = .ok (.if_icmp .ne 12, 3) := by decide +kernel
theorem eX23_typeItem_9 : decode cX23_typeItem 9 = .ok (.aload_n 0, 1) := by decide +kernel
theorem eX23_typeItem_10 : decode cX23_typeItem 10 = .ok (.iconst 2, 1) := by decide +kernel
theorem eX23_typeItem_11 : decode cX23_typeItem 11 = .ok (.aload_n 0, 1) := by decide +kernel
theorem eX23_typeItem_12 : decode cX23_typeItem 12 = .ok (.getfield 86, 3) := by decide +kernel
theorem eX23_typeItem_15 : decode cX23_typeItem 15 = .ok (.invokevirtual 96, 3) := by decide +kernel
theorem eX23_typeItem_18 : decode cX23_typeItem 18 = .ok (.aload_n 0, 1) := by decide +kernel
theorem eX23_typeItem_19 : decode cX23_typeItem 19 = .ok (.dup, 1) := by decide +kernel
theorem eX23_typeItem_20 : decode cX23_typeItem 20 = .ok (.getfield 171, 3) := by decide +kernel
theorem eX23_typeItem_23 : decode cX23_typeItem 23 = .ok (.iconst 1, 1) := by decide +kernel
theorem eX23_typeItem_24 : decode cX23_typeItem 24 = .ok (.iadd, 1) := by decide +kernel
theorem eX23_typeItem_25 : decode cX23_typeItem 25 = .ok (.putfield 171, 3) := by decide +kernel
theorem eX23_typeItem_28 : decode cX23_typeItem 28 = .ok (.aload_n 0, 1) := by decide +kernel
theorem eX23_typeItem_29 : decode cX23_typeItem 29 = .ok (.dup, 1) := by decide +kernel
theorem eX23_typeItem_30 : decode cX23_typeItem 30 = .ok (.getfield 86, 3) := by decide +kernel
theorem eX23_typeItem_33 : decode cX23_typeItem 33 = .ok (.iconst 1, 1) := by decide +kernel
theorem eX23_typeItem_34 : decode cX23_typeItem 34 = .ok (.iadd, 1) := by decide +kernel
theorem eX23_typeItem_35 : decode cX23_typeItem 35 = .ok (.putfield 86, 3) := by decide +kernel
theorem eX23_typeItem_38 : decode cX23_typeItem 38 = .ok (.aload_n 1, 1) := by decide +kernel
theorem eX23_typeItem_39 : decode cX23_typeItem 39 = .ok (.aload_n 1, 1) := by decide +kernel
theorem eX23_typeItem_40 : decode cX23_typeItem 40 = .ok (.getfield 174, 3) := by decide +kernel
theorem eX23_typeItem_43 : decode cX23_typeItem 43 = .ok (.bipush 10, 2) := by decide +kernel
theorem eX23_typeItem_45 : decode cX23_typeItem 45 = .ok (.if_icmp .ne 11, 3) := by decide +kernel
theorem eX23_typeItem_48 : decode cX23_typeItem 48 = .ok (.bipush 13, 2) := by decide +kernel
theorem eX23_typeItem_50 : decode cX23_typeItem 50 = .ok (.anewarray 107, 3) := by decide +kernel
theorem eX23_typeItem_53 : decode cX23_typeItem 53 = .ok (.goto 4, 3) := by decide +kernel
theorem eX23_typeItem_56 : decode cX23_typeItem 56 = .ok (.aconst_null, 1) := by decide +kernel
theorem eX23_typeItem_57 : decode cX23_typeItem 57 = .ok (.putfield 153, 3) := by decide +kernel
theorem eX23_typeItem_60 : decode cX23_typeItem 60 = .ok (.aload_n 1, 1) := by decide +kernel
theorem eX23_typeItem_61 : decode cX23_typeItem 61 = .ok (.aload_n 1, 1) := by decide +kernel
theorem eX23_typeItem_62 : decode cX23_typeItem 62 = .ok (.getfield 174, 3) := by decide +kernel
theorem eX23_typeItem_65 : decode cX23_typeItem 65 = .ok (.bipush 10, 2) := by decide +kernel
theorem eX23_typeItem_67 : decode cX23_typeItem 67 = .ok (.if_icmp .ne 11, 3) := by decide +kernel
theorem eX23_typeItem_70 : decode cX23_typeItem 70 = .ok (.bipush 13, 2) := by decide +kernel
theorem eX23_typeItem_72 : decode cX23_typeItem 72 = .ok (.anewarray 164, 3) := by decide +kernel
theorem eX23_typeItem_75 : decode cX23_typeItem 75 = .ok (.goto 4, 3) := by decide +kernel
theorem eX23_typeItem_78 : decode cX23_typeItem 78 = .ok (.aconst_null, 1) := by decide +kernel
theorem eX23_typeItem_79 : decode cX23_typeItem 79 = .ok (.putfield 175, 3) := by decide +kernel
theorem eX23_typeItem_82 : decode cX23_typeItem 82 = .ok (.aload_n 1, 1) := by decide +kernel
theorem eX23_typeItem_83 : decode cX23_typeItem 83 = .ok (.aload_n 1, 1) := by decide +kernel
theorem eX23_typeItem_84 : decode cX23_typeItem 84 = .ok (.getfield 174, 3) := by decide +kernel
theorem eX23_typeItem_87 : decode cX23_typeItem 87 = .ok (.bipush 11, 2) := by decide +kernel
theorem eX23_typeItem_89 : decode cX23_typeItem 89 = .ok (.if_icmp .ne 11, 3) := by decide +kernel
theorem eX23_typeItem_92 : decode cX23_typeItem 92 = .ok (.bipush 13, 2) := by decide +kernel
theorem eX23_typeItem_94 : decode cX23_typeItem 94 = .ok (.anewarray 156, 3) := by decide +kernel
theorem eX23_typeItem_97 : decode cX23_typeItem 97 = .ok (.goto 4, 3) := by decide +kernel
theorem eX23_typeItem_100 : decode cX23_typeItem 100 = .ok (.aconst_null, 1) := by decide +kernel
theorem eX23_typeItem_101 : decode cX23_typeItem 101 = .ok (.putfield 159, 3) := by decide +kernel
theorem eX23_typeItem_104 : decode cX23_typeItem 104 = .ok (.aload_n 1, 1) := by decide +kernel
theorem eX23_typeItem_105 : decode cX23_typeItem 105 = .ok (.aload_n 0, 1) := by decide +kernel
theorem eX23_typeItem_106 : decode cX23_typeItem 106 = .ok (.invokevirtual 150, 3) := by decide +kernel
theorem eX23_typeItem_109 : decode cX23_typeItem 109 = .ok (.putfield 176, 3) := by decide +kernel
theorem eX23_typeItem_112 : decode cX23_typeItem 112 = .ok (.aload_n 0, 1) := by decide +kernel
theorem eX23_typeItem_113 : decode cX23_typeItem 113 = .ok (.bipush 63, 2) := by decide +kernel
theorem eX23_typeItem_115 : decode cX23_typeItem 115 = .ok (.invokevirtual 100, 3) := by decide +kernel
theorem eX23_typeItem_118 : decode cX23_typeItem 118 = .ok (.iconst 1, 1) := by decide +kernel
theorem eX23_typeItem_119 : decode cX23_typeItem 119 = .ok (.istore_n 2, 1) := by decide +kernel
theorem eX23_typeItem_120 : decode cX23_typeItem 120 = .ok (.aload_n 0, 1) := by decide +kernel
theorem eX23_typeItem_121 : decode cX23_typeItem 121 = .ok (.invokevirtual 89, 3) := by decide +kernel
theorem eX23_typeItem_124 : decode cX23_typeItem 124 = .ok (.ifCond .eq 39, 3) := by decide +kernel
theorem eX23_typeItem_127 : decode cX23_typeItem 127 = .ok (.iload_n 2, 1) := by decide +kernel
theorem eX23_typeItem_128 : decode cX23_typeItem 128 = .ok (.ifCond .eq 35, 3) := by decide +kernel
theorem eX23_typeItem_131 : decode cX23_typeItem 131 = .ok (.aload_n 1, 1) := by decide +kernel
theorem eX23_typeItem_132 : decode cX23_typeItem 132 = .ok (.getfield 174, 3) := by decide +kernel
theorem eX23_typeItem_135 : decode cX23_typeItem 135 = .ok (.bipush 10, 2) := by decide +kernel
theorem eX23_typeItem_137 : decode cX23_typeItem 137 = .ok (.if_icmp .ne 11, 3) := by decide +kernel
theorem eX23_typeItem_140 : decode cX23_typeItem 140 = .ok (.aload_n 0, 1) := by decide +kernel
theorem eX23_typeItem_141 : decode cX23_typeItem 141 = .ok (.aload_n 1, 1) := by decide +kernel
theorem eX23_typeItem_142 : decode cX23_typeItem 142 = .ok (.invokevirtual 177, 3) := by decide +kernel
theorem eX23_typeItem_145 : decode cX23_typeItem 145 = .ok (.goto 8, 3) := by decide +kernel
theorem eX23_typeItem_148 : decode cX23_typeItem 148 = .ok (.aload_n 0, 1) := by decide +kernel
theorem eX23_typeItem_149 : decode cX23_typeItem 149 = .ok (.aload_n 1, 1) := by decide +kernel
theorem eX23_typeItem_150 : decode cX23_typeItem 150 = .ok (.invokevirtual 181, 3) := by decide +kernel
theorem eX23_typeItem_153 : decode cX23_typeItem 153 = .ok (.aload_n 0, 1) := by decide +kernel
theorem eX23_typeItem_154 : decode cX23_typeItem 154 = .ok (.bipush 57, 2) := by decide +kernel
theorem eX23_typeItem_156 : decode cX23_typeItem 156 = .ok (.invokevirtual 125, 3) := by decide +kernel
theorem eX23_typeItem_159 : decode cX23_typeItem 159 = .ok (.istore_n 2, 1) := by decide +kernel
theorem eX23_typeItem_160 : decode cX23_typeItem 160 = .ok (.goto (-40), 3) := by decide +kernel
theorem eX23_typeItem_163 : decode cX23_typeItem 163 = .ok (.aload_n 0, 1) := by decide +kernel
theorem eX23_typeItem_164 : decode cX23_typeItem 164 = .ok (.bipush 64, 2) := by decide +kernel
theorem eX23_typeItem_166 : decode cX23_typeItem 166 = .ok (.invokevirtual 100, 3) := by decide +kernel
theorem eX23_typeItem_169 : decode cX23_typeItem 169 = .ok (.return_, 1) := by decide +kernel
theorem eX23_takeLives_0 : decode cX23_takeLives 0 = .ok (.iconst 1, 1) := by decide +kernel
theorem eX23_takeLives_1 : decode cX23_takeLives 1 = .ok (.istore_n 2, 1) := by decide +kernel
theorem eX23_takeLives_2 : decode cX23_takeLives 2 = .ok (.aload_n 0, 1) := by decide +kernel
theorem eX23_takeLives_3 : decode cX23_takeLives 3 = .ok (.invokevirtual 89, 3) := by decide +kernel
theorem eX23_takeLives_6 : decode cX23_takeLives 6 = .ok (.ifCond .eq 80, 3) := by decide +kernel
theorem eX23_takeLives_9 : decode cX23_takeLives 9 = .ok (.iload_n 2, 1) := by decide +kernel
theorem eX23_takeLives_10 : decode cX23_takeLives 10 = .ok (.ifCond .eq 76, 3) := by decide +kernel
theorem eX23_takeLives_13 : decode cX23_takeLives 13 = .ok (.aload_n 0, 1) := by decide +kernel
theorem eX23_takeLives_14 : decode cX23_takeLives 14 = .ok (.iconst 4, 1) := by decide +kernel
theorem eX23_takeLives_15 : decode cX23_takeLives 15 = .ok (.invokevirtual 93, 3) := by decide +kernel
theorem eX23_takeLives_18 : decode cX23_takeLives 18 = .ok (.ifCond .eq 21, 3) := by decide +kernel
theorem eX23_takeLives_21 : decode cX23_takeLives 21 = .ok (.aload_n 1, 1) := by decide +kernel
theorem eX23_takeLives_22 : decode cX23_takeLives 22 = .ok (.getfield 184, 3) := by decide +kernel
theorem eX23_takeLives_25 : decode cX23_takeLives 25 = .ok (.bipush 8, 2) := by decide +kernel
theorem eX23_takeLives_27 : decode cX23_takeLives 27 = .ok (.if_icmp .ne 12, 3) := by decide +kernel
theorem eX23_takeLives_30 : decode cX23_takeLives 30 = .ok (.aload_n 0, 1) := by decide +kernel
theorem eX23_takeLives_31 : decode cX23_takeLives 31 = .ok (.iconst 2, 1) := by decide +kernel
theorem eX23_takeLives_32 : decode cX23_takeLives 32 = .ok (.aload_n 0, 1) := by decide +kernel
theorem eX23_takeLives_33 : decode cX23_takeLives 33 = .ok (.getfield 86, 3) := by decide +kernel
theorem eX23_takeLives_36 : decode cX23_takeLives 36 = .ok (.invokevirtual 96, 3) := by decide +kernel
theorem eX23_takeLives_39 : decode cX23_takeLives 39 = .ok (.aload_n 0, 1) := by decide +kernel
theorem eX23_takeLives_40 : decode cX23_takeLives 40 = .ok (.iconst 4, 1) := by decide +kernel
theorem eX23_takeLives_41 : decode cX23_takeLives 41 = .ok (.invokevirtual 100, 3) := by decide +kernel
theorem eX23_takeLives_44 : decode cX23_takeLives 44 = .ok (.aload_n 0, 1) := by decide +kernel
theorem eX23_takeLives_45 : decode cX23_takeLives 45 = .ok (.invokevirtual 89, 3) := by decide +kernel
theorem eX23_takeLives_48 : decode cX23_takeLives 48 = .ok (.ifCond .eq 18, 3) := by decide +kernel
theorem eX23_takeLives_51 : decode cX23_takeLives 51 = .ok (.aload_n 1, 1) := by decide +kernel
theorem eX23_takeLives_52 : decode cX23_takeLives 52 = .ok (.getfield 187, 3) := by decide +kernel
theorem eX23_takeLives_55 : decode cX23_takeLives 55 = .ok (.aload_n 1, 1) := by decide +kernel
theorem eX23_takeLives_56 : decode cX23_takeLives 56 = .ok (.getfield 184, 3) := by decide +kernel
theorem eX23_takeLives_59 : decode cX23_takeLives 59 = .ok (.aload_n 0, 1) := by decide +kernel
theorem eX23_takeLives_60 : decode cX23_takeLives 60 = .ok (.getfield 86, 3) := by decide +kernel
theorem eX23_takeLives_63 : decode cX23_takeLives 63 = .ok (.iconst 1, 1) := by decide +kernel
theorem eX23_takeLives_64 : decode cX23_takeLives 64 = .ok (.isub, 1) := by decide +kernel
theorem eX23_takeLives_65 : decode cX23_takeLives 65 = .ok (.iastore, 1) := by decide +kernel
theorem eX23_takeLives_66 : decode cX23_takeLives 66 = .ok (.aload_n 1, 1) := by decide +kernel
theorem eX23_takeLives_67 : decode cX23_takeLives 67 = .ok (.dup, 1) := by decide +kernel
theorem eX23_takeLives_68 : decode cX23_takeLives 68 = .ok (.getfield 184, 3) := by decide +kernel
theorem eX23_takeLives_71 : decode cX23_takeLives 71 = .ok (.iconst 1, 1) := by decide +kernel
theorem eX23_takeLives_72 : decode cX23_takeLives 72 = .ok (.iadd, 1) := by decide +kernel
theorem eX23_takeLives_73 : decode cX23_takeLives 73 = .ok (.putfield 184, 3) := by decide +kernel
theorem eX23_takeLives_76 : decode cX23_takeLives 76 = .ok (.aload_n 0, 1) := by decide +kernel
theorem eX23_takeLives_77 : decode cX23_takeLives 77 = .ok (.bipush 57, 2) := by decide +kernel
theorem eX23_takeLives_79 : decode cX23_takeLives 79 = .ok (.invokevirtual 125, 3) := by decide +kernel
theorem eX23_takeLives_82 : decode cX23_takeLives 82 = .ok (.istore_n 2, 1) := by decide +kernel
theorem eX23_takeLives_83 : decode cX23_takeLives 83 = .ok (.goto (-81), 3) := by decide +kernel
theorem eX23_takeLives_86 : decode cX23_takeLives 86 = .ok (.aload_n 0, 1) := by decide +kernel
theorem eX23_takeLives_87 : decode cX23_takeLives 87 = .ok (.bipush 49, 2) := by decide +kernel
theorem eX23_takeLives_89 : decode cX23_takeLives 89 = .ok (.invokevirtual 100, 3) := by decide +kernel
theorem eX23_takeLives_92 : decode cX23_takeLives 92 = .ok (.return_, 1) := by decide +kernel
theorem eX14_init_0 : decode cX14_init 0 = .ok (.aload_n 0, 1) := by decide +kernel
theorem eX14_init_1 : decode cX14_init 1 = .ok (.invokespecial 1, 3) := by decide +kernel
theorem eX14_init_4 : decode cX14_init 4 = .ok (.aload_n 0, 1) := by decide +kernel
theorem eX14_init_5 : decode cX14_init 5 = .ok (.iconst 4, 1) := by decide +kernel
theorem eX14_init_6 : decode cX14_init 6 = .ok (.anewarray 7, 3) := by decide +kernel
theorem eX14_init_9 : decode cX14_init 9 = .ok (.putfield 9, 3) := by decide +kernel
theorem eX14_init_12 : decode cX14_init 12 = .ok (.return_, 1) := by decide +kernel
theorem eX19_init_0 : decode cX19_init 0 = .ok (.aload_n 0, 1) := by decide +kernel
theorem eX19_init_1 : decode cX19_init 1 = .ok (.invokespecial 1, 3) := by decide +kernel
theorem eX19_init_4 : decode cX19_init 4 = .ok (.return_, 1) := by decide +kernel
theorem eX15_init_0 : decode cX15_init 0 = .ok (.aload_n 0, 1) := by decide +kernel
theorem eX15_init_1 : decode cX15_init 1 = .ok (.invokespecial 1, 3) := by decide +kernel
theorem eX15_init_4 : decode cX15_init 4 = .ok (.return_, 1) := by decide +kernel
theorem eX23_add_0 : decode cX23_add 0 = .ok (.aload_n 0, 1) := by decide +kernel
theorem eX23_add_1 : decode cX23_add 1 = .ok (.getfield 337, 3) := by decide +kernel
theorem eX23_add_4 : decode cX23_add 4 = .ok (.ifnonnull 18, 3) := by decide +kernel
theorem eX23_add_7 : decode cX23_add 7 = .ok (.aload_n 0, 1) := by decide +kernel
theorem eX23_add_8 : decode cX23_add 8 = .ok (.iconst 4, 1) := by decide +kernel
theorem eX23_add_9 : decode cX23_add 9 = .ok (.anewarray 295, 3) := by decide +kernel
theorem eX23_add_12 : decode cX23_add 12 = .ok (.putfield 337, 3) := by decide +kernel
theorem eX23_add_15 : decode cX23_add 15 = .ok (.aload_n 0, 1) := by decide +kernel
theorem eX23_add_16 : decode cX23_add 16 = .ok (.iconst 4, 1) := by decide +kernel
theorem eX23_add_17 : decode cX23_add 17 = .ok (.newarray .int, 2) := by decide +kernel
theorem eX23_add_19 : decode cX23_add 19 = .ok (.putfield 339, 3) := by decide +kernel
theorem eX23_add_22 : decode cX23_add 22 = .ok (.aload_n 0, 1) := by decide +kernel
theorem eX23_add_23 : decode cX23_add 23 = .ok (.getfield 342, 3) := by decide +kernel
theorem eX23_add_26 : decode cX23_add 26 = .ok (.aload_n 0, 1) := by decide +kernel
theorem eX23_add_27 : decode cX23_add 27 = .ok (.getfield 337, 3) := by decide +kernel
theorem eX23_add_30 : decode cX23_add 30 = .ok (.arraylength, 1) := by decide +kernel
theorem eX23_add_31 : decode cX23_add 31 = .ok (.if_icmp .ne 75, 3) := by decide +kernel
theorem eX23_add_34 : decode cX23_add 34 = .ok (.iconst 2, 1) := by decide +kernel
theorem eX23_add_35 : decode cX23_add 35 = .ok (.aload_n 0, 1) := by decide +kernel
theorem eX23_add_36 : decode cX23_add 36 = .ok (.getfield 342, 3) := by decide +kernel
theorem eX23_add_39 : decode cX23_add 39 = .ok (.imul, 1) := by decide +kernel
theorem eX23_add_40 : decode cX23_add 40 = .ok (.anewarray 295, 3) := by decide +kernel
theorem eX23_add_43 : decode cX23_add 43 = .ok (.astore_n 3, 1) := by decide +kernel
theorem eX23_add_44 : decode cX23_add 44 = .ok (.iconst 2, 1) := by decide +kernel
theorem eX23_add_45 : decode cX23_add 45 = .ok (.aload_n 0, 1) := by decide +kernel
theorem eX23_add_46 : decode cX23_add 46 = .ok (.getfield 342, 3) := by decide +kernel
theorem eX23_add_49 : decode cX23_add 49 = .ok (.imul, 1) := by decide +kernel
theorem eX23_add_50 : decode cX23_add 50 = .ok (.newarray .int, 2) := by decide +kernel
theorem eX23_add_52 : decode cX23_add 52 = .ok (.astore 4, 2) := by decide +kernel
theorem eX23_add_54 : decode cX23_add 54 = .ok (.iconst 0, 1) := by decide +kernel
theorem eX23_add_55 : decode cX23_add 55 = .ok (.istore 5, 2) := by decide +kernel
theorem eX23_add_57 : decode cX23_add 57 = .ok (.iload 5, 2) := by decide +kernel
theorem eX23_add_59 : decode cX23_add 59 = .ok (.aload_n 0, 1) := by decide +kernel
theorem eX23_add_60 : decode cX23_add 60 = .ok (.getfield 342, 3) := by decide +kernel
theorem eX23_add_63 : decode cX23_add 63 = .ok (.if_icmp .ge 32, 3) := by decide +kernel
theorem eX23_add_66 : decode cX23_add 66 = .ok (.aload_n 3, 1) := by decide +kernel
theorem eX23_add_67 : decode cX23_add 67 = .ok (.iload 5, 2) := by decide +kernel
theorem eX23_add_69 : decode cX23_add 69 = .ok (.aload_n 0, 1) := by decide +kernel
theorem eX23_add_70 : decode cX23_add 70 = .ok (.getfield 337, 3) := by decide +kernel
theorem eX23_add_73 : decode cX23_add 73 = .ok (.iload 5, 2) := by decide +kernel
theorem eX23_add_75 : decode cX23_add 75 = .ok (.aaload, 1) := by decide +kernel
theorem eX23_add_76 : decode cX23_add 76 = .ok (.aastore, 1) := by decide +kernel
theorem eX23_add_77 : decode cX23_add 77 = .ok (.aload 4, 2) := by decide +kernel
theorem eX23_add_79 : decode cX23_add 79 = .ok (.iload 5, 2) := by decide +kernel
theorem eX23_add_81 : decode cX23_add 81 = .ok (.aload_n 0, 1) := by decide +kernel
theorem eX23_add_82 : decode cX23_add 82 = .ok (.getfield 339, 3) := by decide +kernel
theorem eX23_add_85 : decode cX23_add 85 = .ok (.iload 5, 2) := by decide +kernel
theorem eX23_add_87 : decode cX23_add 87 = .ok (.iaload, 1) := by decide +kernel
theorem eX23_add_88 : decode cX23_add 88 = .ok (.iastore, 1) := by decide +kernel
theorem eX23_add_89 : decode cX23_add 89 = .ok (.iinc 5 1, 3) := by decide +kernel
theorem eX23_add_92 : decode cX23_add 92 = .ok (.goto (-35), 3) := by decide +kernel
theorem eX23_add_95 : decode cX23_add 95 = .ok (.aload_n 0, 1) := by decide +kernel
theorem eX23_add_96 : decode cX23_add 96 = .ok (.aload_n 3, 1) := by decide +kernel
theorem eX23_add_97 : decode cX23_add 97 = .ok (.putfield 337, 3) := by decide +kernel
theorem eX23_add_100 : decode cX23_add 100 = .ok (.aload_n 0, 1) := by decide +kernel
theorem eX23_add_101 : decode cX23_add 101 = .ok (.aload 4, 2) := by decide +kernel
theorem eX23_add_103 : decode cX23_add 103 = .ok (.putfield 339, 3) := by decide +kernel
theorem eX23_add_106 : decode cX23_add 106 = .ok (.aload_n 0, 1) := by decide +kernel
theorem eX23_add_107 : decode cX23_add 107 = .ok (.getfield 337, 3) := by decide +kernel
theorem eX23_add_110 : decode cX23_add 110 = .ok (.aload_n 0, 1) := by decide +kernel
theorem eX23_add_111 : decode cX23_add 111 = .ok (.getfield 342, 3) := by decide +kernel
theorem eX23_add_114 : decode cX23_add 114 = .ok (.aload_n 1, 1) := by decide +kernel
theorem eX23_add_115 : decode cX23_add 115 = .ok (.aastore, 1) := by decide +kernel
theorem eX23_add_116 : decode cX23_add 116 = .ok (.aload_n 0, 1) := by decide +kernel
theorem eX23_add_117 : decode cX23_add 117 = .ok (.getfield 339, 3) := by decide +kernel
theorem eX23_add_120 : decode cX23_add 120 = .ok (.aload_n 0, 1) := by decide +kernel
theorem eX23_add_121 : decode cX23_add 121 = .ok (.getfield 342, 3) := by decide +kernel
theorem eX23_add_124 : decode cX23_add 124 = .ok (.iload_n 2, 1) := by decide +kernel
theorem eX23_add_125 : decode cX23_add 125 = .ok (.iastore, 1) := by decide +kernel
theorem eX23_add_126 : decode cX23_add 126 = .ok (.aload_n 0, 1) := by decide +kernel
theorem eX23_add_127 : decode cX23_add 127 = .ok (.dup, 1) := by decide +kernel
theorem eX23_add_128 : decode cX23_add 128 = .ok (.getfield 342, 3) := by decide +kernel
theorem eX23_add_131 : decode cX23_add 131 = .ok (.iconst 1, 1) := by decide +kernel
theorem eX23_add_132 : decode cX23_add 132 = .ok (.iadd, 1) := by decide +kernel
theorem eX23_add_133 : decode cX23_add 133 = .ok (.putfield 342, 3) := by decide +kernel
theorem eX23_add_136 : decode cX23_add 136 = .ok (.return_, 1) := by decide +kernel
theorem eX23_levelOf_0 : decode cX23_levelOf 0 = .ok (.iload_n 0, 1) := by decide +kernel
theorem eX23_levelOf_1 : decode cX23_levelOf 1 = .ok (.bipush 52, 2) := by decide +kernel
theorem eX23_levelOf_3 : decode cX23_levelOf 3 = .ok (.if_icmp .ne 5, 3) := by decide +kernel
theorem eX23_levelOf_6 : decode cX23_levelOf 6 = .ok (.iconst 1, 1) := by decide +kernel
theorem eX23_levelOf_7 : decode cX23_levelOf 7 = .ok (.ireturn, 1) := by decide +kernel
theorem eX23_levelOf_8 : decode cX23_levelOf 8 = .ok (.iload_n 0, 1) := by decide +kernel
theorem eX23_levelOf_9 : decode cX23_levelOf 9 = .ok (.bipush 51, 2) := by decide +kernel
theorem eX23_levelOf_11 : decode cX23_levelOf 11 = .ok (.if_icmp .ne 5, 3) := by decide +kernel
theorem eX23_levelOf_14 : decode cX23_levelOf 14 = .ok (.iconst 2, 1) := by decide +kernel
theorem eX23_levelOf_15 : decode cX23_levelOf 15 = .ok (.ireturn, 1) := by decide +kernel
theorem eX23_levelOf_16 : decode cX23_levelOf 16 = .ok (.iload_n 0, 1) := by decide +kernel
theorem eX23_levelOf_17 : decode cX23_levelOf 17 = .ok (.bipush 45, 2) := by decide +kernel
theorem eX23_levelOf_19 : decode cX23_levelOf 19 = .ok (.if_icmp .lt 11, 3) := by decide +kernel
theorem eX23_levelOf_22 : decode cX23_levelOf 22 = .ok (.iload_n 0, 1) := by decide +kernel
theorem eX23_levelOf_23 : decode cX23_levelOf 23 = .ok (.bipush 50, 2) := by decide +kernel
theorem eX23_levelOf_25 : decode cX23_levelOf 25 = .ok (.if_icmp .gt 5, 3) := by decide +kernel
theorem eX23_levelOf_28 : decode cX23_levelOf 28 = .ok (.iconst 3, 1) := by decide +kernel
theorem eX23_levelOf_29 : decode cX23_levelOf 29 = .ok (.ireturn, 1) := by decide +kernel
theorem eX23_levelOf_30 : decode cX23_levelOf 30 = .ok (.iload_n 0, 1) := by decide +kernel
theorem eX23_levelOf_31 : decode cX23_levelOf 31 = .ok (.bipush 40, 2) := by decide +kernel
theorem eX23_levelOf_33 : decode cX23_levelOf 33 = .ok (.if_icmp .eq 9, 3) := by decide +kernel
theorem eX23_levelOf_36 : decode cX23_levelOf 36 = .ok (.iload_n 0, 1) := by decide +kernel
theorem eX23_levelOf_37 : decode cX23_levelOf 37 = .ok (.bipush 41, 2) := by decide +kernel
theorem eX23_levelOf_39 : decode cX23_levelOf 39 = .ok (.if_icmp .ne 7, 3) := by decide +kernel
theorem eX23_levelOf_42 : decode cX23_levelOf 42 = .ok (.iconst 4, 1) := by decide +kernel
theorem eX23_levelOf_43 : decode cX23_levelOf 43 = .ok (.goto 26, 3) := by decide +kernel
theorem eX23_levelOf_46 : decode cX23_levelOf 46 = .ok (.iload_n 0, 1) := by decide +kernel
theorem eX23_levelOf_47 : decode cX23_levelOf 47 = .ok (.bipush 42, 2) := by decide +kernel
theorem eX23_levelOf_49 : decode cX23_levelOf 49 = .ok (.if_icmp .eq 15, 3) := by decide +kernel
theorem eX23_levelOf_52 : decode cX23_levelOf 52 = .ok (.iload_n 0, 1) := by decide +kernel
theorem eX23_levelOf_53 : decode cX23_levelOf 53 = .ok (.bipush 43, 2) := by decide +kernel
theorem eX23_levelOf_55 : decode cX23_levelOf 55 = .ok (.if_icmp .eq 9, 3) := by decide +kernel
theorem eX23_levelOf_58 : decode cX23_levelOf 58 = .ok (.iload_n 0, 1) := by decide +kernel
theorem eX23_levelOf_59 : decode cX23_levelOf 59 = .ok (.bipush 44, 2) := by decide +kernel
theorem eX23_levelOf_61 : decode cX23_levelOf 61 = .ok (.if_icmp .ne 7, 3) := by decide +kernel
theorem eX23_levelOf_64 : decode cX23_levelOf 64 = .ok (.iconst 5, 1) := by decide +kernel
theorem eX23_levelOf_65 : decode cX23_levelOf 65 = .ok (.goto 4, 3) := by decide +kernel
theorem eX23_levelOf_68 : decode cX23_levelOf 68 = .ok (.iconst 0, 1) := by decide +kernel
theorem eX23_levelOf_69 : decode cX23_levelOf 69 = .ok (.ireturn, 1) := by decide +kernel
theorem eX23_borrow_0 : decode cX23_borrow 0 = .ok (.aload_n 0, 1) := by decide +kernel
theorem eX23_borrow_1 : decode cX23_borrow 1 = .ok (.invokevirtual 89, 3) := by decide +kernel
theorem eX23_borrow_4 : decode cX23_borrow 4 = .ok (.ifCond .eq 21, 3) := by decide +kernel
theorem eX23_borrow_7 : decode cX23_borrow 7 = .ok (.aload_n 0, 1) := by decide +kernel
theorem eX23_borrow_8 : decode cX23_borrow 8 = .ok (.getfield 207, 3) := by decide +kernel
theorem eX23_borrow_11 : decode cX23_borrow 11 = .ok (.bipush 54, 2) := by decide +kernel
theorem eX23_borrow_13 : decode cX23_borrow 13 = .ok (.if_icmp .ne 12, 3) := by decide +kernel
theorem eX23_borrow_16 : decode cX23_borrow 16 = .ok (.aload_n 0, 1) := by decide +kernel
theorem eX23_borrow_17 : decode cX23_borrow 17 = .ok (.iconst 2, 1) := by decide +kernel
theorem eX23_borrow_18 : decode cX23_borrow 18 = .ok (.aload_n 0, 1) := by decide +kernel
theorem eX23_borrow_19 : decode cX23_borrow 19 = .ok (.getfield 86, 3) := by decide +kernel
theorem eX23_borrow_22 : decode cX23_borrow 22 = .ok (.invokevirtual 96, 3) := by decide +kernel
theorem eX23_borrow_25 : decode cX23_borrow 25 = .ok (.aload_n 0, 1) := by decide +kernel
theorem eX23_borrow_26 : decode cX23_borrow 26 = .ok (.dup, 1) := by decide +kernel
theorem eX23_borrow_27 : decode cX23_borrow 27 = .ok (.getfield 207, 3) := by decide +kernel
theorem eX23_borrow_30 : decode cX23_borrow 30 = .ok (.iconst 1, 1) := by decide +kernel
theorem eX23_borrow_31 : decode cX23_borrow 31 = .ok (.iadd, 1) := by decide +kernel
theorem eX23_borrow_32 : decode cX23_borrow 32 = .ok (.putfield 207, 3) := by decide +kernel
theorem eX23_borrow_35 : decode cX23_borrow 35 = .ok (.return_, 1) := by decide +kernel
theorem eX23_exp_0 : decode cX23_exp 0 = .ok (.aload_n 0, 1) := by decide +kernel
theorem eX23_exp_1 : decode cX23_exp 1 = .ok (.iconst 1, 1) := by decide +kernel
theorem eX23_exp_2 : decode cX23_exp 2 = .ok (.invokevirtual 333, 3) := by decide +kernel
theorem eX23_exp_5 : decode cX23_exp 5 = .ok (.areturn, 1) := by decide +kernel
theorem eX23_newFields_0 : decode cX23_newFields 0 = .ok (.aload_n 0, 1) := by decide +kernel
theorem eX23_newFields_1 : decode cX23_newFields 1 = .ok (.dup, 1) := by decide +kernel
theorem eX23_newFields_2 : decode cX23_newFields 2 = .ok (.getfield 86, 3) := by decide +kernel
theorem eX23_newFields_5 : decode cX23_newFields 5 = .ok (.iconst 1, 1) := by decide +kernel
theorem eX23_newFields_6 : decode cX23_newFields 6 = .ok (.iadd, 1) := by decide +kernel
theorem eX23_newFields_7 : decode cX23_newFields 7 = .ok (.putfield 86, 3) := by decide +kernel
theorem eX23_newFields_10 : decode cX23_newFields 10 = .ok (.aload_n 1, 1) := by decide +kernel
theorem eX23_newFields_11 : decode cX23_newFields 11 = .ok (.aload_n 0, 1) := by decide +kernel
theorem eX23_newFields_12 : decode cX23_newFields 12 = .ok (.invokevirtual 150, 3) := by decide +kernel
theorem eX23_newFields_15 : decode cX23_newFields 15 = .ok (.putfield 362, 3) := by decide +kernel
theorem eX23_newFields_18 : decode cX23_newFields 18 = .ok (.aload_n 0, 1) := by decide +kernel
theorem eX23_newFields_19 : decode cX23_newFields 19 = .ok (.invokevirtual 89, 3) := by decide +kernel
theorem eX23_newFields_22 : decode cX23_newFields 22 = .ok (.ifCond .eq 23, 3) := by decide +kernel
theorem eX23_newFields_25 : decode cX23_newFields 25 = .ok (.aload_n 0, 1) := by decide +kernel
theorem eX23_newFields_26 : decode cX23_newFields 26 = .ok (.bipush 63, 2) := by decide +kernel
theorem eX23_newFields_28 : decode cX23_newFields 28 = .ok (.invokevirtual 93, 3) := by decide +kernel
theorem eX23_newFields_31 : decode cX23_newFields 31 = .ok (.ifCond .eq 14, 3) := by decide +kernel
theorem eX23_newFields_34 : decode cX23_newFields 34 = .ok (.aload_n 0, 1) := by decide +kernel
theorem eX23_newFields_35 : decode cX23_newFields 35 = .ok (.aload_n 0, 1) := by decide +kernel
theorem eX23_newFields_36 : decode cX23_newFields 36 = .ok (.getfield 86, 3) := by decide +kernel
theorem eX23_newFields_39 : decode cX23_newFields 39 = .ok (.invokevirtual 119, 3) := by decide +kernel
theorem eX23_newFields_42 : decode cX23_newFields 42 = .ok (.goto 13, 3) := by decide +kernel
theorem eX23_newFields_45 : decode cX23_newFields 45 = .ok (.aload_n 0, 1) := by decide +kernel
theorem eX23_newFields_46 : decode cX23_newFields 46 = .ok (.dup, 1) := by decide +kernel
theorem eX23_newFields_47 : decode cX23_newFields 47 = .ok (.getfield 104, 3) := by decide +kernel
theorem eX23_newFields_50 : decode cX23_newFields 50 = .ok (.iconst 1, 1) := by decide +kernel
theorem eX23_newFields_51 : decode cX23_newFields 51 = .ok (.iadd, 1) := by decide +kernel
theorem eX23_newFields_52 : decode cX23_newFields 52 = .ok (.putfield 104, 3) := by decide +kernel
theorem eX23_newFields_55 : decode cX23_newFields 55 = .ok (.aload_n 0, 1) := by decide +kernel
theorem eX23_newFields_56 : decode cX23_newFields 56 = .ok (.bipush 63, 2) := by decide +kernel
theorem eX23_newFields_58 : decode cX23_newFields 58 = .ok (.invokevirtual 100, 3) := by decide +kernel
theorem eX23_newFields_61 : decode cX23_newFields 61 = .ok (.iconst 1, 1) := by decide +kernel
theorem eX23_newFields_62 : decode cX23_newFields 62 = .ok (.istore_n 2, 1) := by decide +kernel
theorem eX23_newFields_63 : decode cX23_newFields 63 = .ok (.aload_n 0, 1) := by decide +kernel
theorem eX23_newFields_64 : decode cX23_newFields 64 = .ok (.invokevirtual 89, 3) := by decide +kernel
theorem eX23_newFields_67 : decode cX23_newFields 67 = .ok (.ifCond .eq 44, 3) := by decide +kernel
theorem eX23_newFields_70 : decode cX23_newFields 70 = .ok (.iload_n 2, 1) := by decide +kernel
theorem eX23_newFields_71 : decode cX23_newFields 71 = .ok (.ifCond .eq 40, 3) := by decide +kernel
theorem eX23_newFields_74 : decode cX23_newFields 74 = .ok (.aload_n 0, 1) := by decide +kernel
theorem eX23_newFields_75 : decode cX23_newFields 75 = .ok (.invokevirtual 150, 3) := by decide +kernel
theorem eX23_newFields_78 : decode cX23_newFields 78 = .ok (.istore_n 3, 1) := by decide +kernel
theorem eX23_newFields_79 : decode cX23_newFields 79 = .ok (.aload_n 0, 1) := by decide +kernel
theorem eX23_newFields_80 : decode cX23_newFields 80 = .ok (.bipush 58, 2) := by decide +kernel
theorem eX23_newFields_82 : decode cX23_newFields 82 = .ok (.invokevirtual 100, 3) := by decide +kernel
theorem eX23_newFields_85 : decode cX23_newFields 85 = .ok (.aload_n 0, 1) := by decide +kernel
theorem eX23_newFields_86 : decode cX23_newFields 86 = .ok (.invokevirtual 89, 3) := by decide +kernel
theorem eX23_newFields_89 : decode cX23_newFields 89 = .ok (.ifCond .eq 12, 3) := by decide +kernel
theorem eX23_newFields_92 : decode cX23_newFields 92 = .ok (.aload_n 1, 1) := by decide +kernel
theorem eX23_newFields_93 : decode cX23_newFields 93 = .ok (.aload_n 0, 1) := by decide +kernel
theorem eX23_newFields_94 : decode cX23_newFields 94 = .ok (.invokevirtual 264, 3) := by decide +kernel
theorem eX23_newFields_97 : decode cX23_newFields 97 = .ok (.iload_n 3, 1) := by decide +kernel
theorem eX23_newFields_98 : decode cX23_newFields 98 = .ok (.invokestatic 351, 3) := by decide +kernel
theorem eX23_newFields_101 : decode cX23_newFields 101 = .ok (.aload_n 0, 1) := by decide +kernel
theorem eX23_newFields_102 : decode cX23_newFields 102 = .ok (.bipush 57, 2) := by decide +kernel
theorem eX23_newFields_104 : decode cX23_newFields 104 = .ok (.invokevirtual 125, 3) := by decide +kernel
theorem eX23_newFields_107 : decode cX23_newFields 107 = .ok (.istore_n 2, 1) := by decide +kernel
theorem eX23_newFields_108 : decode cX23_newFields 108 = .ok (.goto (-45), 3) := by decide +kernel
theorem eX23_newFields_111 : decode cX23_newFields 111 = .ok (.aload_n 0, 1) := by decide +kernel
theorem eX23_newFields_112 : decode cX23_newFields 112 = .ok (.dup, 1) := by decide +kernel
theorem eX23_newFields_113 : decode cX23_newFields 113 = .ok (.getfield 104, 3) := by decide +kernel
theorem eX23_newFields_116 : decode cX23_newFields 116 = .ok (.iconst 1, 1) := by decide +kernel
theorem eX23_newFields_117 : decode cX23_newFields 117 = .ok (.isub, 1) := by decide +kernel
theorem eX23_newFields_118 : decode cX23_newFields 118 = .ok (.putfield 104, 3) := by decide +kernel
theorem eX23_newFields_121 : decode cX23_newFields 121 = .ok (.aload_n 0, 1) := by decide +kernel
theorem eX23_newFields_122 : decode cX23_newFields 122 = .ok (.bipush 64, 2) := by decide +kernel
theorem eX23_newFields_124 : decode cX23_newFields 124 = .ok (.invokevirtual 100, 3) := by decide +kernel
theorem eX23_newFields_127 : decode cX23_newFields 127 = .ok (.return_, 1) := by decide +kernel
theorem eX23_list_0 : decode cX23_list 0 = .ok (.aload_n 0, 1) := by decide +kernel
theorem eX23_list_1 : decode cX23_list 1 = .ok (.invokevirtual 89, 3) := by decide +kernel
theorem eX23_list_4 : decode cX23_list 4 = .ok (.ifCond .eq 23, 3) := by decide +kernel
theorem eX23_list_7 : decode cX23_list 7 = .ok (.aload_n 0, 1) := by decide +kernel
theorem eX23_list_8 : decode cX23_list 8 = .ok (.bipush 61, 2) := by decide +kernel
theorem eX23_list_10 : decode cX23_list 10 = .ok (.invokevirtual 93, 3) := by decide +kernel
theorem eX23_list_13 : decode cX23_list 13 = .ok (.ifCond .eq 14, 3) := by decide +kernel
theorem eX23_list_16 : decode cX23_list 16 = .ok (.aload_n 0, 1) := by decide +kernel
theorem eX23_list_17 : decode cX23_list 17 = .ok (.aload_n 0, 1) := by decide +kernel
theorem eX23_list_18 : decode cX23_list 18 = .ok (.getfield 86, 3) := by decide +kernel
theorem eX23_list_21 : decode cX23_list 21 = .ok (.invokevirtual 119, 3) := by decide +kernel
theorem eX23_list_24 : decode cX23_list 24 = .ok (.goto 13, 3) := by decide +kernel
theorem eX23_list_27 : decode cX23_list 27 = .ok (.aload_n 0, 1) := by decide +kernel
theorem eX23_list_28 : decode cX23_list 28 = .ok (.dup, 1) := by decide +kernel
theorem eX23_list_29 : decode cX23_list 29 = .ok (.getfield 104, 3) := by decide +kernel
theorem eX23_list_32 : decode cX23_list 32 = .ok (.iconst 1, 1) := by decide +kernel
theorem eX23_list_33 : decode cX23_list 33 = .ok (.iadd, 1) := by decide +kernel
theorem eX23_list_34 : decode cX23_list 34 = .ok (.putfield 104, 3) := by decide +kernel
theorem eX23_list_37 : decode cX23_list 37 = .ok (.aload_n 0, 1) := by decide +kernel
theorem eX23_list_38 : decode cX23_list 38 = .ok (.bipush 61, 2) := by decide +kernel
theorem eX23_list_40 : decode cX23_list 40 = .ok (.invokevirtual 100, 3) := by decide +kernel
theorem eX23_list_43 : decode cX23_list 43 = .ok (.aload_n 1, 1) := by decide +kernel
theorem eX23_list_44 : decode cX23_list 44 = .ok (.getfield 330, 3) := by decide +kernel
theorem eX23_list_47 : decode cX23_list 47 = .ok (.iconst 3, 1) := by decide +kernel
theorem eX23_list_48 : decode cX23_list 48 = .ok (.if_icmp .ne 12, 3) := by decide +kernel
theorem eX23_list_51 : decode cX23_list 51 = .ok (.aload_n 0, 1) := by decide +kernel
theorem eX23_list_52 : decode cX23_list 52 = .ok (.bipush 62, 2) := by decide +kernel
theorem eX23_list_54 : decode cX23_list 54 = .ok (.invokevirtual 93, 3) := by decide +kernel
theorem eX23_list_57 : decode cX23_list 57 = .ok (.ifCond .ne 35, 3) := by decide +kernel
theorem eX23_list_60 : decode cX23_list 60 = .ok (.iconst 1, 1) := by decide +kernel
theorem eX23_list_61 : decode cX23_list 61 = .ok (.istore_n 2, 1) := by decide +kernel
theorem eX23_list_62 : decode cX23_list 62 = .ok (.aload_n 0, 1) := by decide +kernel
theorem eX23_list_63 : decode cX23_list 63 = .ok (.invokevirtual 89, 3) := by decide +kernel
theorem eX23_list_66 : decode cX23_list 66 = .ok (.ifCond .eq 26, 3) := by decide +kernel
theorem eX23_list_69 : decode cX23_list 69 = .ok (.iload_n 2, 1) := by decide +kernel
theorem eX23_list_70 : decode cX23_list 70 = .ok (.ifCond .eq 22, 3) := by decide +kernel
theorem eX23_list_73 : decode cX23_list 73 = .ok (.aload_n 1, 1) := by decide +kernel
theorem eX23_list_74 : decode cX23_list 74 = .ok (.aload_n 0, 1) := by decide +kernel
theorem eX23_list_75 : decode cX23_list 75 = .ok (.invokevirtual 264, 3) := by decide +kernel
theorem eX23_list_78 : decode cX23_list 78 = .ok (.iconst 0, 1) := by decide +kernel
theorem eX23_list_79 : decode cX23_list 79 = .ok (.invokestatic 351, 3) := by decide +kernel
theorem eX23_list_82 : decode cX23_list 82 = .ok (.aload_n 0, 1) := by decide +kernel
theorem eX23_list_83 : decode cX23_list 83 = .ok (.bipush 57, 2) := by decide +kernel
theorem eX23_list_85 : decode cX23_list 85 = .ok (.invokevirtual 125, 3) := by decide +kernel
theorem eX23_list_88 : decode cX23_list 88 = .ok (.istore_n 2, 1) := by decide +kernel
theorem eX23_list_89 : decode cX23_list 89 = .ok (.goto (-27), 3) := by decide +kernel
theorem eX23_list_92 : decode cX23_list 92 = .ok (.aload_n 0, 1) := by decide +kernel
theorem eX23_list_93 : decode cX23_list 93 = .ok (.dup, 1) := by decide +kernel
theorem eX23_list_94 : decode cX23_list 94 = .ok (.getfield 104, 3) := by decide +kernel
theorem eX23_list_97 : decode cX23_list 97 = .ok (.iconst 1, 1) := by decide +kernel
theorem eX23_list_98 : decode cX23_list 98 = .ok (.isub, 1) := by decide +kernel
theorem eX23_list_99 : decode cX23_list 99 = .ok (.putfield 104, 3) := by decide +kernel
theorem eX23_list_102 : decode cX23_list 102 = .ok (.aload_n 0, 1) := by decide +kernel
theorem eX23_list_103 : decode cX23_list 103 = .ok (.bipush 62, 2) := by decide +kernel
theorem eX23_list_105 : decode cX23_list 105 = .ok (.invokevirtual 100, 3) := by decide +kernel
theorem eX23_list_108 : decode cX23_list 108 = .ok (.return_, 1) := by decide +kernel
theorem eX23_named_0 : decode cX23_named 0 = .ok (.aload_n 1, 1) := by decide +kernel
theorem eX23_named_1 : decode cX23_named 1 = .ok (.aload_n 0, 1) := by decide +kernel
theorem eX23_named_2 : decode cX23_named 2 = .ok (.getfield 86, 3) := by decide +kernel
theorem eX23_named_5 : decode cX23_named 5 = .ok (.putfield 362, 3) := by decide +kernel
theorem eX23_named_8 : decode cX23_named 8 = .ok (.aload_n 0, 1) := by decide +kernel
theorem eX23_named_9 : decode cX23_named 9 = .ok (.dup, 1) := by decide +kernel
theorem eX23_named_10 : decode cX23_named 10 = .ok (.getfield 86, 3) := by decide +kernel
theorem eX23_named_13 : decode cX23_named 13 = .ok (.iconst 1, 1) := by decide +kernel
theorem eX23_named_14 : decode cX23_named 14 = .ok (.iadd, 1) := by decide +kernel
theorem eX23_named_15 : decode cX23_named 15 = .ok (.putfield 86, 3) := by decide +kernel
theorem eX23_named_18 : decode cX23_named 18 = .ok (.aload_n 0, 1) := by decide +kernel
theorem eX23_named_19 : decode cX23_named 19 = .ok (.bipush 61, 2) := by decide +kernel
theorem eX23_named_21 : decode cX23_named 21 = .ok (.invokevirtual 93, 3) := by decide +kernel
theorem eX23_named_24 : decode cX23_named 24 = .ok (.ifCond .eq 16, 3) := by decide +kernel
theorem eX23_named_27 : decode cX23_named 27 = .ok (.aload_n 1, 1) := by decide +kernel
theorem eX23_named_28 : decode cX23_named 28 = .ok (.iconst 3, 1) := by decide +kernel
theorem eX23_named_29 : decode cX23_named 29 = .ok (.putfield 330, 3) := by decide +kernel
theorem eX23_named_32 : decode cX23_named 32 = .ok (.aload_n 0, 1) := by decide +kernel
theorem eX23_named_33 : decode cX23_named 33 = .ok (.aload_n 1, 1) := by decide +kernel
theorem eX23_named_34 : decode cX23_named 34 = .ok (.invokevirtual 377, 3) := by decide +kernel
theorem eX23_named_37 : decode cX23_named 37 = .ok (.goto 55, 3) := by decide +kernel
theorem eX23_named_40 : decode cX23_named 40 = .ok (.aload_n 0, 1) := by decide +kernel
theorem eX23_named_41 : decode cX23_named 41 = .ok (.bipush 59, 2) := by decide +kernel
theorem eX23_named_43 : decode cX23_named 43 = .ok (.invokevirtual 125, 3) := by decide +kernel
theorem eX23_named_46 : decode cX23_named 46 = .ok (.ifCond .eq 41, 3) := by decide +kernel
theorem eX23_named_49 : decode cX23_named 49 = .ok (.aload_n 1, 1) := by decide +kernel
theorem eX23_named_50 : decode cX23_named 50 = .ok (.bipush 6, 2) := by decide +kernel
theorem eX23_named_52 : decode cX23_named 52 = .ok (.putfield 330, 3) := by decide +kernel
theorem eX23_named_55 : decode cX23_named 55 = .ok (.aload_n 1, 1) := by decide +kernel
theorem eX23_named_56 : decode cX23_named 56 = .ok (.aload_n 0, 1) := by decide +kernel
theorem eX23_named_57 : decode cX23_named 57 = .ok (.invokevirtual 150, 3) := by decide +kernel
theorem eX23_named_60 : decode cX23_named 60 = .ok (.putfield 379, 3) := by decide +kernel
theorem eX23_named_63 : decode cX23_named 63 = .ok (.aload_n 0, 1) := by decide +kernel
theorem eX23_named_64 : decode cX23_named 64 = .ok (.invokevirtual 89, 3) := by decide +kernel
theorem eX23_named_67 : decode cX23_named 67 = .ok (.ifCond .eq 25, 3) := by decide +kernel
theorem eX23_named_70 : decode cX23_named 70 = .ok (.aload_n 0, 1) := by decide +kernel
theorem eX23_named_71 : decode cX23_named 71 = .ok (.bipush 61, 2) := by decide +kernel
theorem eX23_named_73 : decode cX23_named 73 = .ok (.invokevirtual 93, 3) := by decide +kernel
theorem eX23_named_76 : decode cX23_named 76 = .ok (.ifCond .eq 16, 3) := by decide +kernel
theorem eX23_named_79 : decode cX23_named 79 = .ok (.aload_n 0, 1) := by decide +kernel
theorem eX23_named_80 : decode cX23_named 80 = .ok (.aload_n 1, 1) := by decide +kernel
theorem eX23_named_81 : decode cX23_named 81 = .ok (.invokevirtual 377, 3) := by decide +kernel
theorem eX23_named_84 : decode cX23_named 84 = .ok (.goto 8, 3) := by decide +kernel
theorem eX23_named_87 : decode cX23_named 87 = .ok (.aload_n 1, 1) := by decide +kernel
theorem eX23_named_88 : decode cX23_named 88 = .ok (.iconst 2, 1) := by decide +kernel
theorem eX23_named_89 : decode cX23_named 89 = .ok (.putfield 330, 3) := by decide +kernel
theorem eX23_named_92 : decode cX23_named 92 = .ok (.return_, 1) := by decide +kernel
theorem eX23_enterBracket_0 : decode cX23_enterBracket 0 = .ok (.aload_n 0, 1) := by decide +kernel
theorem eX23_enterBracket_1 : decode cX23_enterBracket 1 = .ok (.invokevirtual 89, 3) := by decide +kernel
theorem eX23_enterBracket_4 : decode cX23_enterBracket 4 = .ok (.ifCond .eq 23, 3) := by decide +kernel
theorem eX23_enterBracket_7 : decode cX23_enterBracket 7 = .ok (.aload_n 0, 1) := by decide +kernel
theorem eX23_enterBracket_8 : decode cX23_enterBracket 8 = .ok (.bipush 61, 2) := by decide +kernel
theorem eX23_enterBracket_10 : decode cX23_enterBracket 10 = .ok (.invokevirtual 93, 3) := by decide +kernel
theorem eX23_enterBracket_13 : decode cX23_enterBracket 13 = .ok (.ifCond .eq 14, 3) := by decide +kernel
theorem eX23_enterBracket_16 : decode cX23_enterBracket 16 = .ok (.aload_n 0, 1) := by decide +kernel
theorem eX23_enterBracket_17 : decode cX23_enterBracket 17 = .ok (.aload_n 0, 1) := by decide +kernel
theorem eX23_enterBracket_18 : decode cX23_enterBracket 18 = .ok (.getfield 86, 3) := by decide +kernel
theorem eX23_enterBracket_21 : decode cX23_enterBracket 21 = .ok (.invokevirtual 119, 3) := by decide +kernel
theorem eX23_enterBracket_24 : decode cX23_enterBracket 24 = .ok (.goto 13, 3) := by decide +kernel
theorem eX23_enterBracket_27 : decode cX23_enterBracket 27 = .ok (.aload_n 0, 1) := by decide +kernel
theorem eX23_enterBracket_28 : decode cX23_enterBracket 28 = .ok (.dup, 1) := by decide +kernel
theorem eX23_enterBracket_29 : decode cX23_enterBracket 29 = .ok (.getfield 104, 3) := by decide +kernel
theorem eX23_enterBracket_32 : decode cX23_enterBracket 32 = .ok (.iconst 1, 1) := by decide +kernel
theorem eX23_enterBracket_33 : decode cX23_enterBracket 33 = .ok (.iadd, 1) := by decide +kernel
theorem eX23_enterBracket_34 : decode cX23_enterBracket 34 = .ok (.putfield 104, 3) := by decide +kernel
theorem eX23_enterBracket_37 : decode cX23_enterBracket 37 = .ok (.aload_n 0, 1) := by decide +kernel
theorem eX23_enterBracket_38 : decode cX23_enterBracket 38 = .ok (.bipush 61, 2) := by decide +kernel
theorem eX23_enterBracket_40 : decode cX23_enterBracket 40 = .ok (.invokevirtual 100, 3) := by decide +kernel
theorem eX23_enterBracket_43 : decode cX23_enterBracket 43 = .ok (.aload_n 0, 1) := by decide +kernel
theorem eX23_enterBracket_44 : decode cX23_enterBracket 44 = .ok (.invokevirtual 89, 3) := by decide +kernel
theorem eX23_enterBracket_47 : decode cX23_enterBracket 47 = .ok (.ifCond .eq 11, 3) := by decide +kernel
theorem eX23_enterBracket_50 : decode cX23_enterBracket 50 = .ok (.aload_n 1, 1) := by decide +kernel
theorem eX23_enterBracket_51 : decode cX23_enterBracket 51 = .ok (.aload_n 0, 1) := by decide +kernel
theorem eX23_enterBracket_52 : decode cX23_enterBracket 52 = .ok (.invokevirtual 264, 3) := by decide +kernel
theorem eX23_enterBracket_55 : decode cX23_enterBracket 55 = .ok (.putfield 331, 3) := by decide +kernel
theorem eX23_enterBracket_58 : decode cX23_enterBracket 58 = .ok (.aload_n 0, 1) := by decide +kernel
theorem eX23_enterBracket_59 : decode cX23_enterBracket 59 = .ok (.dup, 1) := by decide +kernel
theorem eX23_enterBracket_60 : decode cX23_enterBracket 60 = .ok (.getfield 104, 3) := by decide +kernel
theorem eX23_enterBracket_63 : decode cX23_enterBracket 63 = .ok (.iconst 1, 1) := by decide +kernel
theorem eX23_enterBracket_64 : decode cX23_enterBracket 64 = .ok (.isub, 1) := by decide +kernel
theorem eX23_enterBracket_65 : decode cX23_enterBracket 65 = .ok (.putfield 104, 3) := by decide +kernel
theorem eX23_enterBracket_68 : decode cX23_enterBracket 68 = .ok (.aload_n 0, 1) := by decide +kernel
theorem eX23_enterBracket_69 : decode cX23_enterBracket 69 = .ok (.bipush 62, 2) := by decide +kernel
theorem eX23_enterBracket_71 : decode cX23_enterBracket 71 = .ok (.invokevirtual 100, 3) := by decide +kernel
theorem eX23_enterBracket_74 : decode cX23_enterBracket 74 = .ok (.return_, 1) := by decide +kernel
theorem eX23_primary_0 : decode cX23_primary 0 = .ok (.new 295, 3) := by decide +kernel
theorem eX23_primary_3 : decode cX23_primary 3 = .ok (.dup, 1) := by decide +kernel
theorem eX23_primary_4 : decode cX23_primary 4 = .ok (.invokespecial 349, 3) := by decide +kernel
theorem eX23_primary_7 : decode cX23_primary 7 = .ok (.astore_n 1, 1) := by decide +kernel
theorem eX23_primary_8 : decode cX23_primary 8 = .ok (.aload_n 1, 1) := by decide +kernel
theorem eX23_primary_9 : decode cX23_primary 9 = .ok (.aload_n 0, 1) := by decide +kernel
theorem eX23_primary_10 : decode cX23_primary 10 = .ok (.getfield 86, 3) := by decide +kernel
theorem eX23_primary_13 : decode cX23_primary 13 = .ok (.putfield 350, 3) := by decide +kernel
theorem eX23_primary_16 : decode cX23_primary 16 = .ok (.aload_n 0, 1) := by decide +kernel
theorem eX23_primary_17 : decode cX23_primary 17 = .ok (.getfield 25, 3) := by decide +kernel
theorem eX23_primary_20 : decode cX23_primary 20 = .ok (.aload_n 0, 1) := by decide +kernel
theorem eX23_primary_21 : decode cX23_primary 21 = .ok (.getfield 86, 3) := by decide +kernel
theorem eX23_primary_24 : decode cX23_primary 24 = .ok (.iaload, 1) := by decide +kernel
theorem eX23_primary_25 : decode cX23_primary 25 = .ok (.lookupswitch 219 #[(2, 211), (3, 75), (21, 106), (22, 106), (24, 184), (25, 161), (28, 142), (61, 197)], 75) := by decide +kernel
theorem eX23_primary_100 : decode cX23_primary 100 = .ok (.aload_n 1, 1) := by decide +kernel
theorem eX23_primary_101 : decode cX23_primary 101 = .ok (.iconst 0, 1) := by decide +kernel
theorem eX23_primary_102 : decode cX23_primary 102 = .ok (.putfield 330, 3) := by decide +kernel
theorem eX23_primary_105 : decode cX23_primary 105 = .ok (.aload_n 1, 1) := by decide +kernel
theorem eX23_primary_106 : decode cX23_primary 106 = .ok (.aload_n 0, 1) := by decide +kernel
theorem eX23_primary_107 : decode cX23_primary 107 = .ok (.getfield 37, 3) := by decide +kernel
theorem eX23_primary_110 : decode cX23_primary 110 = .ok (.aload_n 0, 1) := by decide +kernel
theorem eX23_primary_111 : decode cX23_primary 111 = .ok (.getfield 86, 3) := by decide +kernel
theorem eX23_primary_114 : decode cX23_primary 114 = .ok (.laload, 1) := by decide +kernel
theorem eX23_primary_115 : decode cX23_primary 115 = .ok (.putfield 363, 3) := by decide +kernel
theorem eX23_primary_118 : decode cX23_primary 118 = .ok (.aload_n 0, 1) := by decide +kernel
theorem eX23_primary_119 : decode cX23_primary 119 = .ok (.dup, 1) := by decide +kernel
theorem eX23_primary_120 : decode cX23_primary 120 = .ok (.getfield 86, 3) := by decide +kernel
theorem eX23_primary_123 : decode cX23_primary 123 = .ok (.iconst 1, 1) := by decide +kernel
theorem eX23_primary_124 : decode cX23_primary 124 = .ok (.iadd, 1) := by decide +kernel
theorem eX23_primary_125 : decode cX23_primary 125 = .ok (.putfield 86, 3) := by decide +kernel
theorem eX23_primary_128 : decode cX23_primary 128 = .ok (.goto 125, 3) := by decide +kernel
theorem eX23_primary_131 : decode cX23_primary 131 = .ok (.aload_n 1, 1) := by decide +kernel
theorem eX23_primary_132 : decode cX23_primary 132 = .ok (.iconst 1, 1) := by decide +kernel
theorem eX23_primary_133 : decode cX23_primary 133 = .ok (.putfield 330, 3) := by decide +kernel
theorem eX23_primary_136 : decode cX23_primary 136 = .ok (.aload_n 1, 1) := by decide +kernel
theorem eX23_primary_137 : decode cX23_primary 137 = .ok (.aload_n 0, 1) := by decide +kernel
theorem eX23_primary_138 : decode cX23_primary 138 = .ok (.bipush 21, 2) := by decide +kernel
theorem eX23_primary_140 : decode cX23_primary 140 = .ok (.invokevirtual 93, 3) := by decide +kernel
theorem eX23_primary_143 : decode cX23_primary 143 = .ok (.ifCond .eq 7, 3) := by decide +kernel
theorem eX23_primary_146 : decode cX23_primary 146 = .ok (.lconst 1, 1) := by decide +kernel
theorem eX23_primary_147 : decode cX23_primary 147 = .ok (.goto 4, 3) := by decide +kernel
theorem eX23_primary_150 : decode cX23_primary 150 = .ok (.lconst 0, 1) := by decide +kernel
theorem eX23_primary_151 : decode cX23_primary 151 = .ok (.putfield 363, 3) := by decide +kernel
theorem eX23_primary_154 : decode cX23_primary 154 = .ok (.aload_n 0, 1) := by decide +kernel
theorem eX23_primary_155 : decode cX23_primary 155 = .ok (.dup, 1) := by decide +kernel
theorem eX23_primary_156 : decode cX23_primary 156 = .ok (.getfield 86, 3) := by decide +kernel
theorem eX23_primary_159 : decode cX23_primary 159 = .ok (.iconst 1, 1) := by decide +kernel
theorem eX23_primary_160 : decode cX23_primary 160 = .ok (.iadd, 1) := by decide +kernel
theorem eX23_primary_161 : decode cX23_primary 161 = .ok (.putfield 86, 3) := by decide +kernel
theorem eX23_primary_164 : decode cX23_primary 164 = .ok (.goto 89, 3) := by decide +kernel
theorem eX23_primary_167 : decode cX23_primary 167 = .ok (.aload_n 1, 1) := by decide +kernel
theorem eX23_primary_168 : decode cX23_primary 168 = .ok (.bipush 15, 2) := by decide +kernel
theorem eX23_primary_170 : decode cX23_primary 170 = .ok (.putfield 330, 3) := by decide +kernel
theorem eX23_primary_173 : decode cX23_primary 173 = .ok (.aload_n 0, 1) := by decide +kernel
theorem eX23_primary_174 : decode cX23_primary 174 = .ok (.dup, 1) := by decide +kernel
theorem eX23_primary_175 : decode cX23_primary 175 = .ok (.getfield 86, 3) := by decide +kernel
theorem eX23_primary_178 : decode cX23_primary 178 = .ok (.iconst 1, 1) := by decide +kernel
theorem eX23_primary_179 : decode cX23_primary 179 = .ok (.iadd, 1) := by decide +kernel
theorem eX23_primary_180 : decode cX23_primary 180 = .ok (.putfield 86, 3) := by decide +kernel
theorem eX23_primary_183 : decode cX23_primary 183 = .ok (.goto 70, 3) := by decide +kernel
theorem eX23_primary_186 : decode cX23_primary 186 = .ok (.aload_n 1, 1) := by decide +kernel
theorem eX23_primary_187 : decode cX23_primary 187 = .ok (.iconst 4, 1) := by decide +kernel
theorem eX23_primary_188 : decode cX23_primary 188 = .ok (.putfield 330, 3) := by decide +kernel
theorem eX23_primary_191 : decode cX23_primary 191 = .ok (.aload_n 0, 1) := by decide +kernel
theorem eX23_primary_192 : decode cX23_primary 192 = .ok (.dup, 1) := by decide +kernel
theorem eX23_primary_193 : decode cX23_primary 193 = .ok (.getfield 86, 3) := by decide +kernel
theorem eX23_primary_196 : decode cX23_primary 196 = .ok (.iconst 1, 1) := by decide +kernel
theorem eX23_primary_197 : decode cX23_primary 197 = .ok (.iadd, 1) := by decide +kernel
theorem eX23_primary_198 : decode cX23_primary 198 = .ok (.putfield 86, 3) := by decide +kernel
theorem eX23_primary_201 : decode cX23_primary 201 = .ok (.aload_n 0, 1) := by decide +kernel
theorem eX23_primary_202 : decode cX23_primary 202 = .ok (.aload_n 1, 1) := by decide +kernel
theorem eX23_primary_203 : decode cX23_primary 203 = .ok (.invokevirtual 367, 3) := by decide +kernel
theorem eX23_primary_206 : decode cX23_primary 206 = .ok (.goto 47, 3) := by decide +kernel
theorem eX23_primary_209 : decode cX23_primary 209 = .ok (.aload_n 1, 1) := by decide +kernel
theorem eX23_primary_210 : decode cX23_primary 210 = .ok (.iconst 5, 1) := by decide +kernel
theorem eX23_primary_211 : decode cX23_primary 211 = .ok (.putfield 330, 3) := by decide +kernel
theorem eX23_primary_214 : decode cX23_primary 214 = .ok (.aload_n 0, 1) := by decide +kernel
theorem eX23_primary_215 : decode cX23_primary 215 = .ok (.aload_n 1, 1) := by decide +kernel
theorem eX23_primary_216 : decode cX23_primary 216 = .ok (.invokevirtual 371, 3) := by decide +kernel
theorem eX23_primary_219 : decode cX23_primary 219 = .ok (.goto 34, 3) := by decide +kernel
theorem eX23_primary_222 : decode cX23_primary 222 = .ok (.aload_n 1, 1) := by decide +kernel
theorem eX23_primary_223 : decode cX23_primary 223 = .ok (.bipush 7, 2) := by decide +kernel
theorem eX23_primary_225 : decode cX23_primary 225 = .ok (.putfield 330, 3) := by decide +kernel
theorem eX23_primary_228 : decode cX23_primary 228 = .ok (.aload_n 0, 1) := by decide +kernel
theorem eX23_primary_229 : decode cX23_primary 229 = .ok (.aload_n 1, 1) := by decide +kernel
theorem eX23_primary_230 : decode cX23_primary 230 = .ok (.invokevirtual 367, 3) := by decide +kernel
theorem eX23_primary_233 : decode cX23_primary 233 = .ok (.goto 20, 3) := by decide +kernel
theorem eX23_primary_236 : decode cX23_primary 236 = .ok (.aload_n 0, 1) := by decide +kernel
theorem eX23_primary_237 : decode cX23_primary 237 = .ok (.aload_n 1, 1) := by decide +kernel
theorem eX23_primary_238 : decode cX23_primary 238 = .ok (.invokevirtual 374, 3) := by decide +kernel
theorem eX23_primary_241 : decode cX23_primary 241 = .ok (.goto 12, 3) := by decide +kernel
theorem eX23_primary_244 : decode cX23_primary 244 = .ok (.aload_n 0, 1) := by decide +kernel
theorem eX23_primary_245 : decode cX23_primary 245 = .ok (.iconst 1, 1) := by decide +kernel
theorem eX23_primary_246 : decode cX23_primary 246 = .ok (.aload_n 0, 1) := by decide +kernel
theorem eX23_primary_247 : decode cX23_primary 247 = .ok (.getfield 86, 3) := by decide +kernel
theorem eX23_primary_250 : decode cX23_primary 250 = .ok (.invokevirtual 96, 3) := by decide +kernel
theorem eX23_primary_253 : decode cX23_primary 253 = .ok (.aload_n 1, 1) := by decide +kernel
theorem eX23_primary_254 : decode cX23_primary 254 = .ok (.areturn, 1) := by decide +kernel
theorem eX23_suffixed_0 : decode cX23_suffixed 0 = .ok (.aload_n 0, 1) := by decide +kernel
theorem eX23_suffixed_1 : decode cX23_suffixed 1 = .ok (.invokevirtual 359, 3) := by decide +kernel
theorem eX23_suffixed_4 : decode cX23_suffixed 4 = .ok (.astore_n 1, 1) := by decide +kernel
theorem eX23_suffixed_5 : decode cX23_suffixed 5 = .ok (.iconst 0, 1) := by decide +kernel
theorem eX23_suffixed_6 : decode cX23_suffixed 6 = .ok (.istore_n 2, 1) := by decide +kernel
theorem eX23_suffixed_7 : decode cX23_suffixed 7 = .ok (.aload_n 0, 1) := by decide +kernel
theorem eX23_suffixed_8 : decode cX23_suffixed 8 = .ok (.invokevirtual 89, 3) := by decide +kernel
theorem eX23_suffixed_11 : decode cX23_suffixed 11 = .ok (.ifCond .eq 80, 3) := by decide +kernel
theorem eX23_suffixed_14 : decode cX23_suffixed 14 = .ok (.aload_n 0, 1) := by decide +kernel
theorem eX23_suffixed_15 : decode cX23_suffixed 15 = .ok (.bipush 56, 2) := by decide +kernel
theorem eX23_suffixed_17 : decode cX23_suffixed 17 = .ok (.invokevirtual 93, 3) := by decide +kernel
theorem eX23_suffixed_20 : decode cX23_suffixed 20 = .ok (.ifCond .eq 71, 3) := by decide +kernel
theorem eX23_suffixed_23 : decode cX23_suffixed 23 = .ok (.iload_n 2, 1) := by decide +kernel
theorem eX23_suffixed_24 : decode cX23_suffixed 24 = .ok (.bipush 16, 2) := by decide +kernel
theorem eX23_suffixed_26 : decode cX23_suffixed 26 = .ok (.if_icmp .ne 12, 3) := by decide +kernel
theorem eX23_suffixed_29 : decode cX23_suffixed 29 = .ok (.aload_n 0, 1) := by decide +kernel
theorem eX23_suffixed_30 : decode cX23_suffixed 30 = .ok (.iconst 2, 1) := by decide +kernel
theorem eX23_suffixed_31 : decode cX23_suffixed 31 = .ok (.aload_n 0, 1) := by decide +kernel
theorem eX23_suffixed_32 : decode cX23_suffixed 32 = .ok (.getfield 86, 3) := by decide +kernel
theorem eX23_suffixed_35 : decode cX23_suffixed 35 = .ok (.invokevirtual 96, 3) := by decide +kernel
theorem eX23_suffixed_38 : decode cX23_suffixed 38 = .ok (.iinc 2 1, 3) := by decide +kernel
theorem eX23_suffixed_41 : decode cX23_suffixed 41 = .ok (.aload_n 0, 1) := by decide +kernel
theorem eX23_suffixed_42 : decode cX23_suffixed 42 = .ok (.dup, 1) := by decide +kernel
theorem eX23_suffixed_43 : decode cX23_suffixed 43 = .ok (.getfield 86, 3) := by decide +kernel
theorem eX23_suffixed_46 : decode cX23_suffixed 46 = .ok (.iconst 1, 1) := by decide +kernel
theorem eX23_suffixed_47 : decode cX23_suffixed 47 = .ok (.iadd, 1) := by decide +kernel
theorem eX23_suffixed_48 : decode cX23_suffixed 48 = .ok (.putfield 86, 3) := by decide +kernel
theorem eX23_suffixed_51 : decode cX23_suffixed 51 = .ok (.new 295, 3) := by decide +kernel
theorem eX23_suffixed_54 : decode cX23_suffixed 54 = .ok (.dup, 1) := by decide +kernel
theorem eX23_suffixed_55 : decode cX23_suffixed 55 = .ok (.invokespecial 349, 3) := by decide +kernel
theorem eX23_suffixed_58 : decode cX23_suffixed 58 = .ok (.astore_n 3, 1) := by decide +kernel
theorem eX23_suffixed_59 : decode cX23_suffixed 59 = .ok (.aload_n 3, 1) := by decide +kernel
theorem eX23_suffixed_60 : decode cX23_suffixed 60 = .ok (.bipush 14, 2) := by decide +kernel
theorem eX23_suffixed_62 : decode cX23_suffixed 62 = .ok (.putfield 330, 3) := by decide +kernel
theorem eX23_suffixed_65 : decode cX23_suffixed 65 = .ok (.aload_n 3, 1) := by decide +kernel
theorem eX23_suffixed_66 : decode cX23_suffixed 66 = .ok (.aload_n 1, 1) := by decide +kernel
theorem eX23_suffixed_67 : decode cX23_suffixed 67 = .ok (.getfield 350, 3) := by decide +kernel
theorem eX23_suffixed_70 : decode cX23_suffixed 70 = .ok (.putfield 350, 3) := by decide +kernel
theorem eX23_suffixed_73 : decode cX23_suffixed 73 = .ok (.aload_n 3, 1) := by decide +kernel
theorem eX23_suffixed_74 : decode cX23_suffixed 74 = .ok (.aload_n 1, 1) := by decide +kernel
theorem eX23_suffixed_75 : decode cX23_suffixed 75 = .ok (.putfield 331, 3) := by decide +kernel
theorem eX23_suffixed_78 : decode cX23_suffixed 78 = .ok (.aload_n 3, 1) := by decide +kernel
theorem eX23_suffixed_79 : decode cX23_suffixed 79 = .ok (.aload_n 0, 1) := by decide +kernel
theorem eX23_suffixed_80 : decode cX23_suffixed 80 = .ok (.invokevirtual 150, 3) := by decide +kernel
theorem eX23_suffixed_83 : decode cX23_suffixed 83 = .ok (.putfield 362, 3) := by decide +kernel
theorem eX23_suffixed_86 : decode cX23_suffixed 86 = .ok (.aload_n 3, 1) := by decide +kernel
theorem eX23_suffixed_87 : decode cX23_suffixed 87 = .ok (.astore_n 1, 1) := by decide +kernel
theorem eX23_suffixed_88 : decode cX23_suffixed 88 = .ok (.goto (-81), 3) := by decide +kernel
theorem eX23_suffixed_91 : decode cX23_suffixed 91 = .ok (.aload_n 1, 1) := by decide +kernel
theorem eX23_suffixed_92 : decode cX23_suffixed 92 = .ok (.areturn, 1) := by decide +kernel
theorem eX23_chain_0 : decode cX23_chain 0 = .ok (.iload_n 1, 1) := by decide +kernel
theorem eX23_chain_1 : decode cX23_chain 1 = .ok (.iconst 5, 1) := by decide +kernel
theorem eX23_chain_2 : decode cX23_chain 2 = .ok (.if_icmp .le 10, 3) := by decide +kernel
theorem eX23_chain_5 : decode cX23_chain 5 = .ok (.aload_n 0, 1) := by decide +kernel
theorem eX23_chain_6 : decode cX23_chain 6 = .ok (.invokevirtual 343, 3) := by decide +kernel
theorem eX23_chain_9 : decode cX23_chain 9 = .ok (.goto 10, 3) := by decide +kernel
theorem eX23_chain_12 : decode cX23_chain 12 = .ok (.aload_n 0, 1) := by decide +kernel
theorem eX23_chain_13 : decode cX23_chain 13 = .ok (.iload_n 1, 1) := by decide +kernel
theorem eX23_chain_14 : decode cX23_chain 14 = .ok (.iconst 1, 1) := by decide +kernel
theorem eX23_chain_15 : decode cX23_chain 15 = .ok (.iadd, 1) := by decide +kernel
theorem eX23_chain_16 : decode cX23_chain 16 = .ok (.invokevirtual 333, 3) := by decide +kernel
theorem eX23_chain_19 : decode cX23_chain 19 = .ok (.astore_n 2, 1) := by decide +kernel
theorem eX23_chain_20 : decode cX23_chain 20 = .ok (.iload_n 1, 1) := by decide +kernel
theorem eX23_chain_21 : decode cX23_chain 21 = .ok (.iconst 5, 1) := by decide +kernel
theorem eX23_chain_22 : decode cX23_chain 22 = .ok (.if_icmp .le 5, 3) := by decide +kernel
theorem eX23_chain_25 : decode cX23_chain 25 = .ok (.aload_n 2, 1) := by decide +kernel
theorem eX23_chain_26 : decode cX23_chain 26 = .ok (.areturn, 1) := by decide +kernel
theorem eX23_chain_27 : decode cX23_chain 27 = .ok (.aconst_null, 1) := by decide +kernel
theorem eX23_chain_28 : decode cX23_chain 28 = .ok (.astore_n 3, 1) := by decide +kernel
theorem eX23_chain_29 : decode cX23_chain 29 = .ok (.aload_n 0, 1) := by decide +kernel
theorem eX23_chain_30 : decode cX23_chain 30 = .ok (.invokevirtual 89, 3) := by decide +kernel
theorem eX23_chain_33 : decode cX23_chain 33 = .ok (.ifCond .eq 102, 3) := by decide +kernel
theorem eX23_chain_36 : decode cX23_chain 36 = .ok (.aload_n 0, 1) := by decide +kernel
theorem eX23_chain_37 : decode cX23_chain 37 = .ok (.getfield 25, 3) := by decide +kernel
theorem eX23_chain_40 : decode cX23_chain 40 = .ok (.aload_n 0, 1) := by decide +kernel
theorem eX23_chain_41 : decode cX23_chain 41 = .ok (.getfield 86, 3) := by decide +kernel
theorem eX23_chain_44 : decode cX23_chain 44 = .ok (.iaload, 1) := by decide +kernel
theorem eX23_chain_45 : decode cX23_chain 45 = .ok (.invokestatic 346, 3) := by decide +kernel
theorem eX23_chain_48 : decode cX23_chain 48 = .ok (.iload_n 1, 1) := by decide +kernel
theorem eX23_chain_49 : decode cX23_chain 49 = .ok (.if_icmp .ne 86, 3) := by decide +kernel
theorem eX23_chain_52 : decode cX23_chain 52 = .ok (.aload_n 0, 1) := by decide +kernel
theorem eX23_chain_53 : decode cX23_chain 53 = .ok (.getfield 86, 3) := by decide +kernel
theorem eX23_chain_56 : decode cX23_chain 56 = .ok (.istore 4, 2) := by decide +kernel
theorem eX23_chain_58 : decode cX23_chain 58 = .ok (.aload_n 0, 1) := by decide +kernel
theorem eX23_chain_59 : decode cX23_chain 59 = .ok (.dup, 1) := by decide +kernel
theorem eX23_chain_60 : decode cX23_chain 60 = .ok (.getfield 86, 3) := by decide +kernel
theorem eX23_chain_63 : decode cX23_chain 63 = .ok (.iconst 1, 1) := by decide +kernel
theorem eX23_chain_64 : decode cX23_chain 64 = .ok (.iadd, 1) := by decide +kernel
theorem eX23_chain_65 : decode cX23_chain 65 = .ok (.putfield 86, 3) := by decide +kernel
theorem eX23_chain_68 : decode cX23_chain 68 = .ok (.aload_n 0, 1) := by decide +kernel
theorem eX23_chain_69 : decode cX23_chain 69 = .ok (.iload 4, 2) := by decide +kernel
theorem eX23_chain_71 : decode cX23_chain 71 = .ok (.invokevirtual 119, 3) := by decide +kernel
theorem eX23_chain_74 : decode cX23_chain 74 = .ok (.aload_n 0, 1) := by decide +kernel
theorem eX23_chain_75 : decode cX23_chain 75 = .ok (.iload_n 1, 1) := by decide +kernel
theorem eX23_chain_76 : decode cX23_chain 76 = .ok (.iconst 1, 1) := by decide +kernel
theorem eX23_chain_77 : decode cX23_chain 77 = .ok (.iadd, 1) := by decide +kernel
theorem eX23_chain_78 : decode cX23_chain 78 = .ok (.invokevirtual 333, 3) := by decide +kernel
theorem eX23_chain_81 : decode cX23_chain 81 = .ok (.astore 5, 2) := by decide +kernel
theorem eX23_chain_83 : decode cX23_chain 83 = .ok (.aload_n 0, 1) := by decide +kernel
theorem eX23_chain_84 : decode cX23_chain 84 = .ok (.dup, 1) := by decide +kernel
theorem eX23_chain_85 : decode cX23_chain 85 = .ok (.getfield 104, 3) := by decide +kernel
theorem eX23_chain_88 : decode cX23_chain 88 = .ok (.iconst 1, 1) := by decide +kernel
theorem eX23_chain_89 : decode cX23_chain 89 = .ok (.isub, 1) := by decide +kernel
theorem eX23_chain_90 : decode cX23_chain 90 = .ok (.putfield 104, 3) := by decide +kernel
theorem eX23_chain_93 : decode cX23_chain 93 = .ok (.aload_n 3, 1) := by decide +kernel
theorem eX23_chain_94 : decode cX23_chain 94 = .ok (.ifnonnull 30, 3) := by decide +kernel
theorem eX23_chain_97 : decode cX23_chain 97 = .ok (.new 295, 3) := by decide +kernel
theorem eX23_chain_100 : decode cX23_chain 100 = .ok (.dup, 1) := by decide +kernel
theorem eX23_chain_101 : decode cX23_chain 101 = .ok (.invokespecial 349, 3) := by decide +kernel
theorem eX23_chain_104 : decode cX23_chain 104 = .ok (.astore_n 3, 1) := by decide +kernel
theorem eX23_chain_105 : decode cX23_chain 105 = .ok (.aload_n 3, 1) := by decide +kernel
theorem eX23_chain_106 : decode cX23_chain 106 = .ok (.bipush 8, 2) := by decide +kernel
theorem eX23_chain_108 : decode cX23_chain 108 = .ok (.putfield 330, 3) := by decide +kernel
theorem eX23_chain_111 : decode cX23_chain 111 = .ok (.aload_n 3, 1) := by decide +kernel
theorem eX23_chain_112 : decode cX23_chain 112 = .ok (.aload_n 2, 1) := by decide +kernel
theorem eX23_chain_113 : decode cX23_chain 113 = .ok (.getfield 350, 3) := by decide +kernel
theorem eX23_chain_116 : decode cX23_chain 116 = .ok (.putfield 350, 3) := by decide +kernel
theorem eX23_chain_119 : decode cX23_chain 119 = .ok (.aload_n 3, 1) := by decide +kernel
theorem eX23_chain_120 : decode cX23_chain 120 = .ok (.aload_n 2, 1) := by decide +kernel
theorem eX23_chain_121 : decode cX23_chain 121 = .ok (.putfield 331, 3) := by decide +kernel
theorem eX23_chain_124 : decode cX23_chain 124 = .ok (.aload_n 3, 1) := by decide +kernel
theorem eX23_chain_125 : decode cX23_chain 125 = .ok (.aload 5, 2) := by decide +kernel
theorem eX23_chain_127 : decode cX23_chain 127 = .ok (.iload 4, 2) := by decide +kernel
theorem eX23_chain_129 : decode cX23_chain 129 = .ok (.invokestatic 351, 3) := by decide +kernel
theorem eX23_chain_132 : decode cX23_chain 132 = .ok (.goto (-103), 3) := by decide +kernel
theorem eX23_chain_135 : decode cX23_chain 135 = .ok (.aload_n 3, 1) := by decide +kernel
theorem eX23_chain_136 : decode cX23_chain 136 = .ok (.ifnonnull 7, 3) := by decide +kernel
theorem eX23_chain_139 : decode cX23_chain 139 = .ok (.aload_n 2, 1) := by decide +kernel
theorem eX23_chain_140 : decode cX23_chain 140 = .ok (.goto 4, 3) := by decide +kernel
theorem eX23_chain_143 : decode cX23_chain 143 = .ok (.aload_n 3, 1) := by decide +kernel
theorem eX23_chain_144 : decode cX23_chain 144 = .ok (.areturn, 1) := by decide +kernel
theorem eX23_unary_0 : decode cX23_unary 0 = .ok (.new 295, 3) := by decide +kernel
theorem eX23_unary_3 : decode cX23_unary 3 = .ok (.dup, 1) := by decide +kernel
theorem eX23_unary_4 : decode cX23_unary 4 = .ok (.invokespecial 349, 3) := by decide +kernel
theorem eX23_unary_7 : decode cX23_unary 7 = .ok (.astore_n 1, 1) := by decide +kernel
theorem eX23_unary_8 : decode cX23_unary 8 = .ok (.aload_n 0, 1) := by decide +kernel
theorem eX23_unary_9 : decode cX23_unary 9 = .ok (.invokevirtual 89, 3) := by decide +kernel
theorem eX23_unary_12 : decode cX23_unary 12 = .ok (.ifCond .ne 5, 3) := by decide +kernel
theorem eX23_unary_15 : decode cX23_unary 15 = .ok (.aload_n 1, 1) := by decide +kernel
theorem eX23_unary_16 : decode cX23_unary 16 = .ok (.areturn, 1) := by decide +kernel
theorem eX23_unary_17 : decode cX23_unary 17 = .ok (.aload_n 0, 1) := by decide +kernel
theorem eX23_unary_18 : decode cX23_unary 18 = .ok (.getfield 25, 3) := by decide +kernel
theorem eX23_unary_21 : decode cX23_unary 21 = .ok (.aload_n 0, 1) := by decide +kernel
theorem eX23_unary_22 : decode cX23_unary 22 = .ok (.getfield 86, 3) := by decide +kernel
theorem eX23_unary_25 : decode cX23_unary 25 = .ok (.iaload, 1) := by decide +kernel
theorem eX23_unary_26 : decode cX23_unary 26 = .ok (.istore_n 2, 1) := by decide +kernel
theorem eX23_unary_27 : decode cX23_unary 27 = .ok (.iload_n 2, 1) := by decide +kernel
theorem eX23_unary_28 : decode cX23_unary 28 = .ok (.bipush 53, 2) := by decide +kernel
theorem eX23_unary_30 : decode cX23_unary 30 = .ok (.if_icmp .eq 32, 3) := by decide +kernel
theorem eX23_unary_33 : decode cX23_unary 33 = .ok (.iload_n 2, 1) := by decide +kernel
theorem eX23_unary_34 : decode cX23_unary 34 = .ok (.bipush 41, 2) := by decide +kernel
theorem eX23_unary_36 : decode cX23_unary 36 = .ok (.if_icmp .eq 26, 3) := by decide +kernel
theorem eX23_unary_39 : decode cX23_unary 39 = .ok (.iload_n 2, 1) := by decide +kernel
theorem eX23_unary_40 : decode cX23_unary 40 = .ok (.bipush 42, 2) := by decide +kernel
theorem eX23_unary_42 : decode cX23_unary 42 = .ok (.if_icmp .eq 20, 3) := by decide +kernel
theorem eX23_unary_45 : decode cX23_unary 45 = .ok (.iload_n 2, 1) := by decide +kernel
theorem eX23_unary_46 : decode cX23_unary 46 = .ok (.bipush 55, 2) := by decide +kernel
theorem eX23_unary_48 : decode cX23_unary 48 = .ok (.if_icmp .eq 14, 3) := by decide +kernel
theorem eX23_unary_51 : decode cX23_unary 51 = .ok (.iload_n 2, 1) := by decide +kernel
theorem eX23_unary_52 : decode cX23_unary 52 = .ok (.bipush 23, 2) := by decide +kernel
theorem eX23_unary_54 : decode cX23_unary 54 = .ok (.if_icmp .eq 8, 3) := by decide +kernel
theorem eX23_unary_57 : decode cX23_unary 57 = .ok (.aload_n 0, 1) := by decide +kernel
theorem eX23_unary_58 : decode cX23_unary 58 = .ok (.invokevirtual 355, 3) := by decide +kernel
theorem eX23_unary_61 : decode cX23_unary 61 = .ok (.areturn, 1) := by decide +kernel
theorem eX23_unary_62 : decode cX23_unary 62 = .ok (.aload_n 1, 1) := by decide +kernel
theorem eX23_unary_63 : decode cX23_unary 63 = .ok (.aload_n 0, 1) := by decide +kernel
theorem eX23_unary_64 : decode cX23_unary 64 = .ok (.getfield 86, 3) := by decide +kernel
theorem eX23_unary_67 : decode cX23_unary 67 = .ok (.putfield 350, 3) := by decide +kernel
theorem eX23_unary_70 : decode cX23_unary 70 = .ok (.aload_n 1, 1) := by decide +kernel
theorem eX23_unary_71 : decode cX23_unary 71 = .ok (.iload_n 2, 1) := by decide +kernel
theorem eX23_unary_72 : decode cX23_unary 72 = .ok (.bipush 53, 2) := by decide +kernel
theorem eX23_unary_74 : decode cX23_unary 74 = .ok (.if_icmp .ne 8, 3) := by decide +kernel
theorem eX23_unary_77 : decode cX23_unary 77 = .ok (.bipush 9, 2) := by decide +kernel
theorem eX23_unary_79 : decode cX23_unary 79 = .ok (.goto 38, 3) := by decide +kernel
theorem eX23_unary_82 : decode cX23_unary 82 = .ok (.iload_n 2, 1) := by decide +kernel
theorem eX23_unary_83 : decode cX23_unary 83 = .ok (.bipush 41, 2) := by decide +kernel
theorem eX23_unary_85 : decode cX23_unary 85 = .ok (.if_icmp .ne 8, 3) := by decide +kernel
theorem eX23_unary_88 : decode cX23_unary 88 = .ok (.bipush 10, 2) := by decide +kernel
theorem eX23_unary_90 : decode cX23_unary 90 = .ok (.goto 27, 3) := by decide +kernel
theorem eX23_unary_93 : decode cX23_unary 93 = .ok (.iload_n 2, 1) := by decide +kernel
theorem eX23_unary_94 : decode cX23_unary 94 = .ok (.bipush 42, 2) := by decide +kernel
theorem eX23_unary_96 : decode cX23_unary 96 = .ok (.if_icmp .ne 8, 3) := by decide +kernel
theorem eX23_unary_99 : decode cX23_unary 99 = .ok (.bipush 11, 2) := by decide +kernel
theorem eX23_unary_101 : decode cX23_unary 101 = .ok (.goto 16, 3) := by decide +kernel
theorem eX23_unary_104 : decode cX23_unary 104 = .ok (.iload_n 2, 1) := by decide +kernel
theorem eX23_unary_105 : decode cX23_unary 105 = .ok (.bipush 55, 2) := by decide +kernel
theorem eX23_unary_107 : decode cX23_unary 107 = .ok (.if_icmp .ne 8, 3) := by decide +kernel
theorem eX23_unary_110 : decode cX23_unary 110 = .ok (.bipush 12, 2) := by decide +kernel
theorem eX23_unary_112 : decode cX23_unary 112 = .ok (.goto 5, 3) := by decide +kernel
theorem eX23_unary_115 : decode cX23_unary 115 = .ok (.bipush 13, 2) := by decide +kernel
theorem eX23_unary_117 : decode cX23_unary 117 = .ok (.putfield 330, 3) := by decide +kernel
theorem eX23_unary_120 : decode cX23_unary 120 = .ok (.aload_n 0, 1) := by decide +kernel
theorem eX23_unary_121 : decode cX23_unary 121 = .ok (.aload_n 0, 1) := by decide +kernel
theorem eX23_unary_122 : decode cX23_unary 122 = .ok (.getfield 86, 3) := by decide +kernel
theorem eX23_unary_125 : decode cX23_unary 125 = .ok (.invokevirtual 119, 3) := by decide +kernel
theorem eX23_unary_128 : decode cX23_unary 128 = .ok (.iload_n 2, 1) := by decide +kernel
theorem eX23_unary_129 : decode cX23_unary 129 = .ok (.bipush 55, 2) := by decide +kernel
theorem eX23_unary_131 : decode cX23_unary 131 = .ok (.if_icmp .ne 7, 3) := by decide +kernel
theorem eX23_unary_134 : decode cX23_unary 134 = .ok (.aload_n 0, 1) := by decide +kernel
theorem eX23_unary_135 : decode cX23_unary 135 = .ok (.invokevirtual 309, 3) := by decide +kernel
theorem eX23_unary_138 : decode cX23_unary 138 = .ok (.aload_n 0, 1) := by decide +kernel
theorem eX23_unary_139 : decode cX23_unary 139 = .ok (.dup, 1) := by decide +kernel
theorem eX23_unary_140 : decode cX23_unary 140 = .ok (.getfield 86, 3) := by decide +kernel
theorem eX23_unary_143 : decode cX23_unary 143 = .ok (.iconst 1, 1) := by decide +kernel
theorem eX23_unary_144 : decode cX23_unary 144 = .ok (.iadd, 1) := by decide +kernel
theorem eX23_unary_145 : decode cX23_unary 145 = .ok (.putfield 86, 3) := by decide +kernel
theorem eX23_unary_148 : decode cX23_unary 148 = .ok (.iload_n 2, 1) := by decide +kernel
theorem eX23_unary_149 : decode cX23_unary 149 = .ok (.bipush 55, 2) := by decide +kernel
theorem eX23_unary_151 : decode cX23_unary 151 = .ok (.if_icmp .ne 13, 3) := by decide +kernel
theorem eX23_unary_154 : decode cX23_unary 154 = .ok (.aload_n 1, 1) := by decide +kernel
theorem eX23_unary_155 : decode cX23_unary 155 = .ok (.aload_n 0, 1) := by decide +kernel
theorem eX23_unary_156 : decode cX23_unary 156 = .ok (.bipush 14, 2) := by decide +kernel
theorem eX23_unary_158 : decode cX23_unary 158 = .ok (.invokevirtual 125, 3) := by decide +kernel
theorem eX23_unary_161 : decode cX23_unary 161 = .ok (.putfield 358, 3) := by decide +kernel
theorem eX23_unary_164 : decode cX23_unary 164 = .ok (.aload_n 1, 1) := by decide +kernel
theorem eX23_unary_165 : decode cX23_unary 165 = .ok (.aload_n 0, 1) := by decide +kernel
theorem eX23_unary_166 : decode cX23_unary 166 = .ok (.invokevirtual 343, 3) := by decide +kernel
theorem eX23_unary_169 : decode cX23_unary 169 = .ok (.putfield 331, 3) := by decide +kernel
theorem eX23_unary_172 : decode cX23_unary 172 = .ok (.aload_n 0, 1) := by decide +kernel
theorem eX23_unary_173 : decode cX23_unary 173 = .ok (.dup, 1) := by decide +kernel
theorem eX23_unary_174 : decode cX23_unary 174 = .ok (.getfield 104, 3) := by decide +kernel
theorem eX23_unary_177 : decode cX23_unary 177 = .ok (.iconst 1, 1) := by decide +kernel
theorem eX23_unary_178 : decode cX23_unary 178 = .ok (.isub, 1) := by decide +kernel
theorem eX23_unary_179 : decode cX23_unary 179 = .ok (.putfield 104, 3) := by decide +kernel
theorem eX23_unary_182 : decode cX23_unary 182 = .ok (.aload_n 1, 1) := by decide +kernel
theorem eX23_unary_183 : decode cX23_unary 183 = .ok (.areturn, 1) := by decide +kernel
theorem eX23_growBranch_0 : decode cX23_growBranch 0 = .ok (.iconst 2, 1) := by decide +kernel
theorem eX23_growBranch_1 : decode cX23_growBranch 1 = .ok (.aload_n 0, 1) := by decide +kernel
theorem eX23_growBranch_2 : decode cX23_growBranch 2 = .ok (.getfield 305, 3) := by decide +kernel
theorem eX23_growBranch_5 : decode cX23_growBranch 5 = .ok (.imul, 1) := by decide +kernel
theorem eX23_growBranch_6 : decode cX23_growBranch 6 = .ok (.anewarray 295, 3) := by decide +kernel
theorem eX23_growBranch_9 : decode cX23_growBranch 9 = .ok (.astore_n 1, 1) := by decide +kernel
theorem eX23_growBranch_10 : decode cX23_growBranch 10 = .ok (.iconst 2, 1) := by decide +kernel
theorem eX23_growBranch_11 : decode cX23_growBranch 11 = .ok (.aload_n 0, 1) := by decide +kernel
theorem eX23_growBranch_12 : decode cX23_growBranch 12 = .ok (.getfield 305, 3) := by decide +kernel
theorem eX23_growBranch_15 : decode cX23_growBranch 15 = .ok (.imul, 1) := by decide +kernel
theorem eX23_growBranch_16 : decode cX23_growBranch 16 = .ok (.anewarray 236, 3) := by decide +kernel
theorem eX23_growBranch_19 : decode cX23_growBranch 19 = .ok (.astore_n 2, 1) := by decide +kernel
theorem eX23_growBranch_20 : decode cX23_growBranch 20 = .ok (.iconst 0, 1) := by decide +kernel
theorem eX23_growBranch_21 : decode cX23_growBranch 21 = .ok (.istore_n 3, 1) := by decide +kernel
theorem eX23_growBranch_22 : decode cX23_growBranch 22 = .ok (.iload_n 3, 1) := by decide +kernel
theorem eX23_growBranch_23 : decode cX23_growBranch 23 = .ok (.aload_n 0, 1) := by decide +kernel
theorem eX23_growBranch_24 : decode cX23_growBranch 24 = .ok (.getfield 305, 3) := by decide +kernel
theorem eX23_growBranch_27 : decode cX23_growBranch 27 = .ok (.if_icmp .ge 27, 3) := by decide +kernel
theorem eX23_growBranch_30 : decode cX23_growBranch 30 = .ok (.aload_n 1, 1) := by decide +kernel
theorem eX23_growBranch_31 : decode cX23_growBranch 31 = .ok (.iload_n 3, 1) := by decide +kernel
theorem eX23_growBranch_32 : decode cX23_growBranch 32 = .ok (.aload_n 0, 1) := by decide +kernel
theorem eX23_growBranch_33 : decode cX23_growBranch 33 = .ok (.getfield 297, 3) := by decide +kernel
theorem eX23_growBranch_36 : decode cX23_growBranch 36 = .ok (.iload_n 3, 1) := by decide +kernel
theorem eX23_growBranch_37 : decode cX23_growBranch 37 = .ok (.aaload, 1) := by decide +kernel
theorem eX23_growBranch_38 : decode cX23_growBranch 38 = .ok (.aastore, 1) := by decide +kernel
theorem eX23_growBranch_39 : decode cX23_growBranch 39 = .ok (.aload_n 2, 1) := by decide +kernel
theorem eX23_growBranch_40 : decode cX23_growBranch 40 = .ok (.iload_n 3, 1) := by decide +kernel
theorem eX23_growBranch_41 : decode cX23_growBranch 41 = .ok (.aload_n 0, 1) := by decide +kernel
theorem eX23_growBranch_42 : decode cX23_growBranch 42 = .ok (.getfield 301, 3) := by decide +kernel
theorem eX23_growBranch_45 : decode cX23_growBranch 45 = .ok (.iload_n 3, 1) := by decide +kernel
theorem eX23_growBranch_46 : decode cX23_growBranch 46 = .ok (.aaload, 1) := by decide +kernel
theorem eX23_growBranch_47 : decode cX23_growBranch 47 = .ok (.aastore, 1) := by decide +kernel
theorem eX23_growBranch_48 : decode cX23_growBranch 48 = .ok (.iinc 3 1, 3) := by decide +kernel
theorem eX23_growBranch_51 : decode cX23_growBranch 51 = .ok (.goto (-29), 3) := by decide +kernel
theorem eX23_growBranch_54 : decode cX23_growBranch 54 = .ok (.aload_n 0, 1) := by decide +kernel
theorem eX23_growBranch_55 : decode cX23_growBranch 55 = .ok (.aload_n 1, 1) := by decide +kernel
theorem eX23_growBranch_56 : decode cX23_growBranch 56 = .ok (.putfield 297, 3) := by decide +kernel
theorem eX23_growBranch_59 : decode cX23_growBranch 59 = .ok (.aload_n 0, 1) := by decide +kernel
theorem eX23_growBranch_60 : decode cX23_growBranch 60 = .ok (.aload_n 2, 1) := by decide +kernel
theorem eX23_growBranch_61 : decode cX23_growBranch 61 = .ok (.putfield 301, 3) := by decide +kernel
theorem eX23_growBranch_64 : decode cX23_growBranch 64 = .ok (.return_, 1) := by decide +kernel
theorem eX23_oneVariable_0 : decode cX23_oneVariable 0 = .ok (.aload_n 0, 1) := by decide +kernel
theorem eX23_oneVariable_1 : decode cX23_oneVariable 1 = .ok (.invokevirtual 89, 3) := by decide +kernel
theorem eX23_oneVariable_4 : decode cX23_oneVariable 4 = .ok (.ifCond .eq 29, 3) := by decide +kernel
theorem eX23_oneVariable_7 : decode cX23_oneVariable 7 = .ok (.aload_n 0, 1) := by decide +kernel
theorem eX23_oneVariable_8 : decode cX23_oneVariable 8 = .ok (.iconst 2, 1) := by decide +kernel
theorem eX23_oneVariable_9 : decode cX23_oneVariable 9 = .ok (.invokevirtual 93, 3) := by decide +kernel
theorem eX23_oneVariable_12 : decode cX23_oneVariable 12 = .ok (.ifCond .eq 21, 3) := by decide +kernel
theorem eX23_oneVariable_15 : decode cX23_oneVariable 15 = .ok (.aload_n 0, 1) := by decide +kernel
theorem eX23_oneVariable_16 : decode cX23_oneVariable 16 = .ok (.getfield 204, 3) := by decide +kernel
theorem eX23_oneVariable_19 : decode cX23_oneVariable 19 = .ok (.bipush 40, 2) := by decide +kernel
theorem eX23_oneVariable_21 : decode cX23_oneVariable 21 = .ok (.if_icmp .ne 12, 3) := by decide +kernel
theorem eX23_oneVariable_24 : decode cX23_oneVariable 24 = .ok (.aload_n 0, 1) := by decide +kernel
theorem eX23_oneVariable_25 : decode cX23_oneVariable 25 = .ok (.iconst 2, 1) := by decide +kernel
theorem eX23_oneVariable_26 : decode cX23_oneVariable 26 = .ok (.aload_n 0, 1) := by decide +kernel
theorem eX23_oneVariable_27 : decode cX23_oneVariable 27 = .ok (.getfield 86, 3) := by decide +kernel
theorem eX23_oneVariable_30 : decode cX23_oneVariable 30 = .ok (.invokevirtual 96, 3) := by decide +kernel
theorem eX23_oneVariable_33 : decode cX23_oneVariable 33 = .ok (.aload_n 0, 1) := by decide +kernel
theorem eX23_oneVariable_34 : decode cX23_oneVariable 34 = .ok (.dup, 1) := by decide +kernel
theorem eX23_oneVariable_35 : decode cX23_oneVariable 35 = .ok (.getfield 204, 3) := by decide +kernel
theorem eX23_oneVariable_38 : decode cX23_oneVariable 38 = .ok (.iconst 1, 1) := by decide +kernel
theorem eX23_oneVariable_39 : decode cX23_oneVariable 39 = .ok (.iadd, 1) := by decide +kernel
theorem eX23_oneVariable_40 : decode cX23_oneVariable 40 = .ok (.putfield 204, 3) := by decide +kernel
theorem eX23_oneVariable_43 : decode cX23_oneVariable 43 = .ok (.return_, 1) := by decide +kernel
theorem eX23_let_0 : decode cX23_let 0 = .ok (.aload_n 1, 1) := by decide +kernel
theorem eX23_let_1 : decode cX23_let 1 = .ok (.iconst 0, 1) := by decide +kernel
theorem eX23_let_2 : decode cX23_let 2 = .ok (.putfield 263, 3) := by decide +kernel
theorem eX23_let_5 : decode cX23_let 5 = .ok (.aload_n 0, 1) := by decide +kernel
theorem eX23_let_6 : decode cX23_let 6 = .ok (.dup, 1) := by decide +kernel
theorem eX23_let_7 : decode cX23_let 7 = .ok (.getfield 86, 3) := by decide +kernel
theorem eX23_let_10 : decode cX23_let 10 = .ok (.iconst 1, 1) := by decide +kernel
theorem eX23_let_11 : decode cX23_let 11 = .ok (.iadd, 1) := by decide +kernel
theorem eX23_let_12 : decode cX23_let 12 = .ok (.putfield 86, 3) := by decide +kernel
theorem eX23_let_15 : decode cX23_let 15 = .ok (.aload_n 1, 1) := by decide +kernel
theorem eX23_let_16 : decode cX23_let 16 = .ok (.aload_n 0, 1) := by decide +kernel
theorem eX23_let_17 : decode cX23_let 17 = .ok (.bipush 14, 2) := by decide +kernel
theorem eX23_let_19 : decode cX23_let 19 = .ok (.invokevirtual 125, 3) := by decide +kernel
theorem eX23_let_22 : decode cX23_let 22 = .ok (.putfield 278, 3) := by decide +kernel
theorem eX23_let_25 : decode cX23_let 25 = .ok (.aload_n 0, 1) := by decide +kernel
theorem eX23_let_26 : decode cX23_let 26 = .ok (.invokevirtual 282, 3) := by decide +kernel
theorem eX23_let_29 : decode cX23_let 29 = .ok (.aload_n 1, 1) := by decide +kernel
theorem eX23_let_30 : decode cX23_let 30 = .ok (.aload_n 0, 1) := by decide +kernel
theorem eX23_let_31 : decode cX23_let 31 = .ok (.invokevirtual 150, 3) := by decide +kernel
theorem eX23_let_34 : decode cX23_let 34 = .ok (.putfield 285, 3) := by decide +kernel
theorem eX23_let_37 : decode cX23_let 37 = .ok (.aload_n 0, 1) := by decide +kernel
theorem eX23_let_38 : decode cX23_let 38 = .ok (.bipush 58, 2) := by decide +kernel
theorem eX23_let_40 : decode cX23_let 40 = .ok (.invokevirtual 125, 3) := by decide +kernel
theorem eX23_let_43 : decode cX23_let 43 = .ok (.ifCond .eq 11, 3) := by decide +kernel
theorem eX23_let_46 : decode cX23_let 46 = .ok (.aload_n 1, 1) := by decide +kernel
theorem eX23_let_47 : decode cX23_let 47 = .ok (.aload_n 0, 1) := by decide +kernel
theorem eX23_let_48 : decode cX23_let 48 = .ok (.invokevirtual 131, 3) := by decide +kernel
theorem eX23_let_51 : decode cX23_let 51 = .ok (.putfield 286, 3) := by decide +kernel
theorem eX23_let_54 : decode cX23_let 54 = .ok (.aload_n 0, 1) := by decide +kernel
theorem eX23_let_55 : decode cX23_let 55 = .ok (.bipush 54, 2) := by decide +kernel
theorem eX23_let_57 : decode cX23_let 57 = .ok (.invokevirtual 125, 3) := by decide +kernel
theorem eX23_let_60 : decode cX23_let 60 = .ok (.ifCond .eq 11, 3) := by decide +kernel
theorem eX23_let_63 : decode cX23_let 63 = .ok (.aload_n 1, 1) := by decide +kernel
theorem eX23_let_64 : decode cX23_let 64 = .ok (.aload_n 0, 1) := by decide +kernel
theorem eX23_let_65 : decode cX23_let 65 = .ok (.invokevirtual 264, 3) := by decide +kernel
theorem eX23_let_68 : decode cX23_let 68 = .ok (.putfield 268, 3) := by decide +kernel
theorem eX23_let_71 : decode cX23_let 71 = .ok (.aload_n 0, 1) := by decide +kernel
theorem eX23_let_72 : decode cX23_let 72 = .ok (.bipush 60, 2) := by decide +kernel
theorem eX23_let_74 : decode cX23_let 74 = .ok (.invokevirtual 100, 3) := by decide +kernel
theorem eX23_let_77 : decode cX23_let 77 = .ok (.return_, 1) := by decide +kernel
theorem eX13_init_0 : decode cX13_init 0 = .ok (.aload_n 0, 1) := by decide +kernel
theorem eX13_init_1 : decode cX13_init 1 = .ok (.invokespecial 1, 3) := by decide +kernel
theorem eX13_init_4 : decode cX13_init 4 = .ok (.aload_n 0, 1) := by decide +kernel
theorem eX13_init_5 : decode cX13_init 5 = .ok (.bipush 12, 2) := by decide +kernel
theorem eX13_init_7 : decode cX13_init 7 = .ok (.newarray .int, 2) := by decide +kernel
theorem eX13_init_9 : decode cX13_init 9 = .ok (.putfield 7, 3) := by decide +kernel
theorem eX13_init_12 : decode cX13_init 12 = .ok (.aload_n 0, 1) := by decide +kernel
theorem eX13_init_13 : decode cX13_init 13 = .ok (.bipush 12, 2) := by decide +kernel
theorem eX13_init_15 : decode cX13_init 15 = .ok (.anewarray 13, 3) := by decide +kernel
theorem eX13_init_18 : decode cX13_init 18 = .ok (.putfield 15, 3) := by decide +kernel
theorem eX13_init_21 : decode cX13_init 21 = .ok (.return_, 1) := by decide +kernel
theorem eX23_isPlace_0 : decode cX23_isPlace 0 = .ok (.aload_n 0, 1) := by decide +kernel
theorem eX23_isPlace_1 : decode cX23_isPlace 1 = .ok (.astore_n 1, 1) := by decide +kernel
theorem eX23_isPlace_2 : decode cX23_isPlace 2 = .ok (.aload_n 1, 1) := by decide +kernel
theorem eX23_isPlace_3 : decode cX23_isPlace 3 = .ok (.ifnull 38, 3) := by decide +kernel
theorem eX23_isPlace_6 : decode cX23_isPlace 6 = .ok (.aload_n 1, 1) := by decide +kernel
theorem eX23_isPlace_7 : decode cX23_isPlace 7 = .ok (.getfield 330, 3) := by decide +kernel
theorem eX23_isPlace_10 : decode cX23_isPlace 10 = .ok (.bipush 7, 2) := by decide +kernel
theorem eX23_isPlace_12 : decode cX23_isPlace 12 = .ok (.if_icmp .eq 21, 3) := by decide +kernel
theorem eX23_isPlace_15 : decode cX23_isPlace 15 = .ok (.aload_n 1, 1) := by decide +kernel
theorem eX23_isPlace_16 : decode cX23_isPlace 16 = .ok (.getfield 330, 3) := by decide +kernel
theorem eX23_isPlace_19 : decode cX23_isPlace 19 = .ok (.bipush 14, 2) := by decide +kernel
theorem eX23_isPlace_21 : decode cX23_isPlace 21 = .ok (.if_icmp .eq 12, 3) := by decide +kernel
theorem eX23_isPlace_24 : decode cX23_isPlace 24 = .ok (.aload_n 1, 1) := by decide +kernel
theorem eX23_isPlace_25 : decode cX23_isPlace 25 = .ok (.getfield 330, 3) := by decide +kernel
theorem eX23_isPlace_28 : decode cX23_isPlace 28 = .ok (.bipush 11, 2) := by decide +kernel
theorem eX23_isPlace_30 : decode cX23_isPlace 30 = .ok (.if_icmp .ne 11, 3) := by decide +kernel
theorem eX23_isPlace_33 : decode cX23_isPlace 33 = .ok (.aload_n 1, 1) := by decide +kernel
theorem eX23_isPlace_34 : decode cX23_isPlace 34 = .ok (.getfield 331, 3) := by decide +kernel
theorem eX23_isPlace_37 : decode cX23_isPlace 37 = .ok (.astore_n 1, 1) := by decide +kernel
theorem eX23_isPlace_38 : decode cX23_isPlace 38 = .ok (.goto (-36), 3) := by decide +kernel
theorem eX23_isPlace_41 : decode cX23_isPlace 41 = .ok (.aload_n 1, 1) := by decide +kernel
theorem eX23_isPlace_42 : decode cX23_isPlace 42 = .ok (.ifnull 15, 3) := by decide +kernel
theorem eX23_isPlace_45 : decode cX23_isPlace 45 = .ok (.aload_n 1, 1) := by decide +kernel
theorem eX23_isPlace_46 : decode cX23_isPlace 46 = .ok (.getfield 330, 3) := by decide +kernel
theorem eX23_isPlace_49 : decode cX23_isPlace 49 = .ok (.iconst 2, 1) := by decide +kernel
theorem eX23_isPlace_50 : decode cX23_isPlace 50 = .ok (.if_icmp .ne 7, 3) := by decide +kernel
theorem eX23_isPlace_53 : decode cX23_isPlace 53 = .ok (.iconst 1, 1) := by decide +kernel
theorem eX23_isPlace_54 : decode cX23_isPlace 54 = .ok (.goto 4, 3) := by decide +kernel
theorem eX23_isPlace_57 : decode cX23_isPlace 57 = .ok (.iconst 0, 1) := by decide +kernel
theorem eX23_isPlace_58 : decode cX23_isPlace 58 = .ok (.ireturn, 1) := by decide +kernel
theorem eX23_plain_0 : decode cX23_plain 0 = .ok (.aload_n 1, 1) := by decide +kernel
theorem eX23_plain_1 : decode cX23_plain 1 = .ok (.iconst 1, 1) := by decide +kernel
theorem eX23_plain_2 : decode cX23_plain 2 = .ok (.putfield 263, 3) := by decide +kernel
theorem eX23_plain_5 : decode cX23_plain 5 = .ok (.aload_n 1, 1) := by decide +kernel
theorem eX23_plain_6 : decode cX23_plain 6 = .ok (.aload_n 0, 1) := by decide +kernel
theorem eX23_plain_7 : decode cX23_plain 7 = .ok (.invokevirtual 264, 3) := by decide +kernel
theorem eX23_plain_10 : decode cX23_plain 10 = .ok (.putfield 268, 3) := by decide +kernel
theorem eX23_plain_13 : decode cX23_plain 13 = .ok (.aload_n 0, 1) := by decide +kernel
theorem eX23_plain_14 : decode cX23_plain 14 = .ok (.invokevirtual 89, 3) := by decide +kernel
theorem eX23_plain_17 : decode cX23_plain 17 = .ok (.ifCond .eq 63, 3) := by decide +kernel
theorem eX23_plain_20 : decode cX23_plain 20 = .ok (.aload_n 0, 1) := by decide +kernel
theorem eX23_plain_21 : decode cX23_plain 21 = .ok (.bipush 54, 2) := by decide +kernel
theorem eX23_plain_23 : decode cX23_plain 23 = .ok (.invokevirtual 93, 3) := by decide +kernel
theorem eX23_plain_26 : decode cX23_plain 26 = .ok (.ifCond .eq 54, 3) := by decide +kernel
theorem eX23_plain_29 : decode cX23_plain 29 = .ok (.aload_n 1, 1) := by decide +kernel
theorem eX23_plain_30 : decode cX23_plain 30 = .ok (.getfield 268, 3) := by decide +kernel
theorem eX23_plain_33 : decode cX23_plain 33 = .ok (.invokestatic 288, 3) := by decide +kernel
theorem eX23_plain_36 : decode cX23_plain 36 = .ok (.ifCond .ne 13, 3) := by decide +kernel
theorem eX23_plain_39 : decode cX23_plain 39 = .ok (.aload_n 0, 1) := by decide +kernel
theorem eX23_plain_40 : decode cX23_plain 40 = .ok (.iconst 1, 1) := by decide +kernel
theorem eX23_plain_41 : decode cX23_plain 41 = .ok (.aload_n 0, 1) := by decide +kernel
theorem eX23_plain_42 : decode cX23_plain 42 = .ok (.getfield 86, 3) := by decide +kernel
theorem eX23_plain_45 : decode cX23_plain 45 = .ok (.invokevirtual 96, 3) := by decide +kernel
theorem eX23_plain_48 : decode cX23_plain 48 = .ok (.return_, 1) := by decide +kernel
theorem eX23_plain_49 : decode cX23_plain 49 = .ok (.aload_n 0, 1) := by decide +kernel
theorem eX23_plain_50 : decode cX23_plain 50 = .ok (.dup, 1) := by decide +kernel
theorem eX23_plain_51 : decode cX23_plain 51 = .ok (.getfield 86, 3) := by decide +kernel
theorem eX23_plain_54 : decode cX23_plain 54 = .ok (.iconst 1, 1) := by decide +kernel
theorem eX23_plain_55 : decode cX23_plain 55 = .ok (.iadd, 1) := by decide +kernel
theorem eX23_plain_56 : decode cX23_plain 56 = .ok (.putfield 86, 3) := by decide +kernel
theorem eX23_plain_59 : decode cX23_plain 59 = .ok (.aload_n 1, 1) := by decide +kernel
theorem eX23_plain_60 : decode cX23_plain 60 = .ok (.iconst 2, 1) := by decide +kernel
theorem eX23_plain_61 : decode cX23_plain 61 = .ok (.putfield 263, 3) := by decide +kernel
theorem eX23_plain_64 : decode cX23_plain 64 = .ok (.aload_n 1, 1) := by decide +kernel
theorem eX23_plain_65 : decode cX23_plain 65 = .ok (.aload_n 1, 1) := by decide +kernel
theorem eX23_plain_66 : decode cX23_plain 66 = .ok (.getfield 268, 3) := by decide +kernel
theorem eX23_plain_69 : decode cX23_plain 69 = .ok (.putfield 292, 3) := by decide +kernel
theorem eX23_plain_72 : decode cX23_plain 72 = .ok (.aload_n 1, 1) := by decide +kernel
theorem eX23_plain_73 : decode cX23_plain 73 = .ok (.aload_n 0, 1) := by decide +kernel
theorem eX23_plain_74 : decode cX23_plain 74 = .ok (.invokevirtual 264, 3) := by decide +kernel
theorem eX23_plain_77 : decode cX23_plain 77 = .ok (.putfield 268, 3) := by decide +kernel
theorem eX23_plain_80 : decode cX23_plain 80 = .ok (.aload_n 0, 1) := by decide +kernel
theorem eX23_plain_81 : decode cX23_plain 81 = .ok (.bipush 60, 2) := by decide +kernel
theorem eX23_plain_83 : decode cX23_plain 83 = .ok (.invokevirtual 100, 3) := by decide +kernel
theorem eX23_plain_86 : decode cX23_plain 86 = .ok (.return_, 1) := by decide +kernel
theorem eX23_arm_0 : decode cX23_arm 0 = .ok (.new 315, 3) := by decide +kernel
theorem eX23_arm_3 : decode cX23_arm 3 = .ok (.dup, 1) := by decide +kernel
theorem eX23_arm_4 : decode cX23_arm 4 = .ok (.invokespecial 325, 3) := by decide +kernel
theorem eX23_arm_7 : decode cX23_arm 7 = .ok (.astore_n 1, 1) := by decide +kernel
theorem eX23_arm_8 : decode cX23_arm 8 = .ok (.aload_n 1, 1) := by decide +kernel
theorem eX23_arm_9 : decode cX23_arm 9 = .ok (.aload_n 0, 1) := by decide +kernel
theorem eX23_arm_10 : decode cX23_arm 10 = .ok (.invokevirtual 150, 3) := by decide +kernel
theorem eX23_arm_13 : decode cX23_arm 13 = .ok (.putfield 326, 3) := by decide +kernel
theorem eX23_arm_16 : decode cX23_arm 16 = .ok (.aload_n 0, 1) := by decide +kernel
theorem eX23_arm_17 : decode cX23_arm 17 = .ok (.bipush 61, 2) := by decide +kernel
theorem eX23_arm_19 : decode cX23_arm 19 = .ok (.invokevirtual 125, 3) := by decide +kernel
theorem eX23_arm_22 : decode cX23_arm 22 = .ok (.ifCond .eq 78, 3) := by decide +kernel
theorem eX23_arm_25 : decode cX23_arm 25 = .ok (.iconst 1, 1) := by decide +kernel
theorem eX23_arm_26 : decode cX23_arm 26 = .ok (.istore_n 2, 1) := by decide +kernel
theorem eX23_arm_27 : decode cX23_arm 27 = .ok (.aload_n 0, 1) := by decide +kernel
theorem eX23_arm_28 : decode cX23_arm 28 = .ok (.invokevirtual 89, 3) := by decide +kernel
theorem eX23_arm_31 : decode cX23_arm 31 = .ok (.ifCond .eq 63, 3) := by decide +kernel
theorem eX23_arm_34 : decode cX23_arm 34 = .ok (.iload_n 2, 1) := by decide +kernel
theorem eX23_arm_35 : decode cX23_arm 35 = .ok (.ifCond .eq 59, 3) := by decide +kernel
theorem eX23_arm_38 : decode cX23_arm 38 = .ok (.aload_n 0, 1) := by decide +kernel
theorem eX23_arm_39 : decode cX23_arm 39 = .ok (.aload_n 1, 1) := by decide +kernel
theorem eX23_arm_40 : decode cX23_arm 40 = .ok (.getfield 327, 3) := by decide +kernel
theorem eX23_arm_43 : decode cX23_arm 43 = .ok (.bipush 12, 2) := by decide +kernel
theorem eX23_arm_45 : decode cX23_arm 45 = .ok (.invokevirtual 144, 3) := by decide +kernel
theorem eX23_arm_48 : decode cX23_arm 48 = .ok (.aload_n 0, 1) := by decide +kernel
theorem eX23_arm_49 : decode cX23_arm 49 = .ok (.invokevirtual 282, 3) := by decide +kernel
theorem eX23_arm_52 : decode cX23_arm 52 = .ok (.aload_n 0, 1) := by decide +kernel
theorem eX23_arm_53 : decode cX23_arm 53 = .ok (.invokevirtual 150, 3) := by decide +kernel
theorem eX23_arm_56 : decode cX23_arm 56 = .ok (.istore_n 3, 1) := by decide +kernel
theorem eX23_arm_57 : decode cX23_arm 57 = .ok (.aload_n 0, 1) := by decide +kernel
theorem eX23_arm_58 : decode cX23_arm 58 = .ok (.invokevirtual 89, 3) := by decide +kernel
theorem eX23_arm_61 : decode cX23_arm 61 = .ok (.ifCond .eq 13, 3) := by decide +kernel
theorem eX23_arm_64 : decode cX23_arm 64 = .ok (.aload_n 1, 1) := by decide +kernel
theorem eX23_arm_65 : decode cX23_arm 65 = .ok (.getfield 328, 3) := by decide +kernel
theorem eX23_arm_68 : decode cX23_arm 68 = .ok (.aload_n 1, 1) := by decide +kernel
theorem eX23_arm_69 : decode cX23_arm 69 = .ok (.getfield 327, 3) := by decide +kernel
theorem eX23_arm_72 : decode cX23_arm 72 = .ok (.iload_n 3, 1) := by decide +kernel
theorem eX23_arm_73 : decode cX23_arm 73 = .ok (.iastore, 1) := by decide +kernel
theorem eX23_arm_74 : decode cX23_arm 74 = .ok (.aload_n 1, 1) := by decide +kernel
theorem eX23_arm_75 : decode cX23_arm 75 = .ok (.dup, 1) := by decide +kernel
theorem eX23_arm_76 : decode cX23_arm 76 = .ok (.getfield 327, 3) := by decide +kernel
theorem eX23_arm_79 : decode cX23_arm 79 = .ok (.iconst 1, 1) := by decide +kernel
theorem eX23_arm_80 : decode cX23_arm 80 = .ok (.iadd, 1) := by decide +kernel
theorem eX23_arm_81 : decode cX23_arm 81 = .ok (.putfield 327, 3) := by decide +kernel
theorem eX23_arm_84 : decode cX23_arm 84 = .ok (.aload_n 0, 1) := by decide +kernel
theorem eX23_arm_85 : decode cX23_arm 85 = .ok (.bipush 57, 2) := by decide +kernel
theorem eX23_arm_87 : decode cX23_arm 87 = .ok (.invokevirtual 125, 3) := by decide +kernel
theorem eX23_arm_90 : decode cX23_arm 90 = .ok (.istore_n 2, 1) := by decide +kernel
theorem eX23_arm_91 : decode cX23_arm 91 = .ok (.goto (-64), 3) := by decide +kernel
theorem eX23_arm_94 : decode cX23_arm 94 = .ok (.aload_n 0, 1) := by decide +kernel
theorem eX23_arm_95 : decode cX23_arm 95 = .ok (.bipush 62, 2) := by decide +kernel
theorem eX23_arm_97 : decode cX23_arm 97 = .ok (.invokevirtual 100, 3) := by decide +kernel
theorem eX23_arm_100 : decode cX23_arm 100 = .ok (.aload_n 0, 1) := by decide +kernel
theorem eX23_arm_101 : decode cX23_arm 101 = .ok (.bipush 66, 2) := by decide +kernel
theorem eX23_arm_103 : decode cX23_arm 103 = .ok (.invokevirtual 100, 3) := by decide +kernel
theorem eX23_arm_106 : decode cX23_arm 106 = .ok (.aload_n 1, 1) := by decide +kernel
theorem eX23_arm_107 : decode cX23_arm 107 = .ok (.aload_n 0, 1) := by decide +kernel
theorem eX23_arm_108 : decode cX23_arm 108 = .ok (.invokevirtual 213, 3) := by decide +kernel
theorem eX23_arm_111 : decode cX23_arm 111 = .ok (.putfield 329, 3) := by decide +kernel
theorem eX23_arm_114 : decode cX23_arm 114 = .ok (.aload_n 1, 1) := by decide +kernel
theorem eX23_arm_115 : decode cX23_arm 115 = .ok (.areturn, 1) := by decide +kernel
theorem eX23_match_0 : decode cX23_match 0 = .ok (.aload_n 1, 1) := by decide +kernel
theorem eX23_match_1 : decode cX23_match 1 = .ok (.iconst 5, 1) := by decide +kernel
theorem eX23_match_2 : decode cX23_match 2 = .ok (.putfield 263, 3) := by decide +kernel
theorem eX23_match_5 : decode cX23_match 5 = .ok (.aload_n 0, 1) := by decide +kernel
theorem eX23_match_6 : decode cX23_match 6 = .ok (.dup, 1) := by decide +kernel
theorem eX23_match_7 : decode cX23_match 7 = .ok (.getfield 86, 3) := by decide +kernel
theorem eX23_match_10 : decode cX23_match 10 = .ok (.iconst 1, 1) := by decide +kernel
theorem eX23_match_11 : decode cX23_match 11 = .ok (.iadd, 1) := by decide +kernel
theorem eX23_match_12 : decode cX23_match 12 = .ok (.putfield 86, 3) := by decide +kernel
theorem eX23_match_15 : decode cX23_match 15 = .ok (.aload_n 0, 1) := by decide +kernel
theorem eX23_match_16 : decode cX23_match 16 = .ok (.bipush 55, 2) := by decide +kernel
theorem eX23_match_18 : decode cX23_match 18 = .ok (.invokevirtual 93, 3) := by decide +kernel
theorem eX23_match_21 : decode cX23_match 21 = .ok (.ifCond .eq 32, 3) := by decide +kernel
theorem eX23_match_24 : decode cX23_match 24 = .ok (.aload_n 0, 1) := by decide +kernel
theorem eX23_match_25 : decode cX23_match 25 = .ok (.invokevirtual 309, 3) := by decide +kernel
theorem eX23_match_28 : decode cX23_match 28 = .ok (.aload_n 0, 1) := by decide +kernel
theorem eX23_match_29 : decode cX23_match 29 = .ok (.dup, 1) := by decide +kernel
theorem eX23_match_30 : decode cX23_match 30 = .ok (.getfield 86, 3) := by decide +kernel
theorem eX23_match_33 : decode cX23_match 33 = .ok (.iconst 1, 1) := by decide +kernel
theorem eX23_match_34 : decode cX23_match 34 = .ok (.iadd, 1) := by decide +kernel
theorem eX23_match_35 : decode cX23_match 35 = .ok (.putfield 86, 3) := by decide +kernel
theorem eX23_match_38 : decode cX23_match 38 = .ok (.aload_n 1, 1) := by decide +kernel
theorem eX23_match_39 : decode cX23_match 39 = .ok (.iconst 1, 1) := by decide +kernel
theorem eX23_match_40 : decode cX23_match 40 = .ok (.putfield 312, 3) := by decide +kernel
theorem eX23_match_43 : decode cX23_match 43 = .ok (.aload_n 1, 1) := by decide +kernel
theorem eX23_match_44 : decode cX23_match 44 = .ok (.aload_n 0, 1) := by decide +kernel
theorem eX23_match_45 : decode cX23_match 45 = .ok (.bipush 14, 2) := by decide +kernel
theorem eX23_match_47 : decode cX23_match 47 = .ok (.invokevirtual 125, 3) := by decide +kernel
theorem eX23_match_50 : decode cX23_match 50 = .ok (.putfield 278, 3) := by decide +kernel
theorem eX23_match_53 : decode cX23_match 53 = .ok (.aload_n 1, 1) := by decide +kernel
theorem eX23_match_54 : decode cX23_match 54 = .ok (.aload_n 0, 1) := by decide +kernel
theorem eX23_match_55 : decode cX23_match 55 = .ok (.invokevirtual 264, 3) := by decide +kernel
theorem eX23_match_58 : decode cX23_match 58 = .ok (.putfield 268, 3) := by decide +kernel
theorem eX23_match_61 : decode cX23_match 61 = .ok (.aload_n 0, 1) := by decide +kernel
theorem eX23_match_62 : decode cX23_match 62 = .ok (.invokevirtual 89, 3) := by decide +kernel
theorem eX23_match_65 : decode cX23_match 65 = .ok (.ifCond .eq 29, 3) := by decide +kernel
theorem eX23_match_68 : decode cX23_match 68 = .ok (.aload_n 1, 1) := by decide +kernel
theorem eX23_match_69 : decode cX23_match 69 = .ok (.getfield 312, 3) := by decide +kernel
theorem eX23_match_72 : decode cX23_match 72 = .ok (.ifCond .eq 22, 3) := by decide +kernel
theorem eX23_match_75 : decode cX23_match 75 = .ok (.aload_n 1, 1) := by decide +kernel
theorem eX23_match_76 : decode cX23_match 76 = .ok (.getfield 268, 3) := by decide +kernel
theorem eX23_match_79 : decode cX23_match 79 = .ok (.invokestatic 288, 3) := by decide +kernel
theorem eX23_match_82 : decode cX23_match 82 = .ok (.ifCond .ne 12, 3) := by decide +kernel
theorem eX23_match_85 : decode cX23_match 85 = .ok (.aload_n 0, 1) := by decide +kernel
theorem eX23_match_86 : decode cX23_match 86 = .ok (.iconst 1, 1) := by decide +kernel
theorem eX23_match_87 : decode cX23_match 87 = .ok (.aload_n 0, 1) := by decide +kernel
theorem eX23_match_88 : decode cX23_match 88 = .ok (.getfield 86, 3) := by decide +kernel
theorem eX23_match_91 : decode cX23_match 91 = .ok (.invokevirtual 96, 3) := by decide +kernel
theorem eX23_match_94 : decode cX23_match 94 = .ok (.aload_n 0, 1) := by decide +kernel
theorem eX23_match_95 : decode cX23_match 95 = .ok (.invokevirtual 89, 3) := by decide +kernel
theorem eX23_match_98 : decode cX23_match 98 = .ok (.ifCond .ne 4, 3) := by decide +kernel
theorem eX23_match_101 : decode cX23_match 101 = .ok (.return_, 1) := by decide +kernel
theorem eX23_match_102 : decode cX23_match 102 = .ok (.aload_n 0, 1) := by decide +kernel
theorem eX23_match_103 : decode cX23_match 103 = .ok (.bipush 63, 2) := by decide +kernel
theorem eX23_match_105 : decode cX23_match 105 = .ok (.invokevirtual 93, 3) := by decide +kernel
theorem eX23_match_108 : decode cX23_match 108 = .ok (.ifCond .eq 14, 3) := by decide +kernel
theorem eX23_match_111 : decode cX23_match 111 = .ok (.aload_n 0, 1) := by decide +kernel
theorem eX23_match_112 : decode cX23_match 112 = .ok (.aload_n 0, 1) := by decide +kernel
theorem eX23_match_113 : decode cX23_match 113 = .ok (.getfield 86, 3) := by decide +kernel
theorem eX23_match_116 : decode cX23_match 116 = .ok (.invokevirtual 119, 3) := by decide +kernel
theorem eX23_match_119 : decode cX23_match 119 = .ok (.goto 13, 3) := by decide +kernel
theorem eX23_match_122 : decode cX23_match 122 = .ok (.aload_n 0, 1) := by decide +kernel
theorem eX23_match_123 : decode cX23_match 123 = .ok (.dup, 1) := by decide +kernel
theorem eX23_match_124 : decode cX23_match 124 = .ok (.getfield 104, 3) := by decide +kernel
theorem eX23_match_127 : decode cX23_match 127 = .ok (.iconst 1, 1) := by decide +kernel
theorem eX23_match_128 : decode cX23_match 128 = .ok (.iadd, 1) := by decide +kernel
theorem eX23_match_129 : decode cX23_match 129 = .ok (.putfield 104, 3) := by decide +kernel
theorem eX23_match_132 : decode cX23_match 132 = .ok (.aload_n 0, 1) := by decide +kernel
theorem eX23_match_133 : decode cX23_match 133 = .ok (.bipush 63, 2) := by decide +kernel
theorem eX23_match_135 : decode cX23_match 135 = .ok (.invokevirtual 100, 3) := by decide +kernel
theorem eX23_match_138 : decode cX23_match 138 = .ok (.aload_n 1, 1) := by decide +kernel
theorem eX23_match_139 : decode cX23_match 139 = .ok (.iconst 4, 1) := by decide +kernel
theorem eX23_match_140 : decode cX23_match 140 = .ok (.anewarray 315, 3) := by decide +kernel
theorem eX23_match_143 : decode cX23_match 143 = .ok (.putfield 317, 3) := by decide +kernel
theorem eX23_match_146 : decode cX23_match 146 = .ok (.aload_n 0, 1) := by decide +kernel
theorem eX23_match_147 : decode cX23_match 147 = .ok (.invokevirtual 89, 3) := by decide +kernel
theorem eX23_match_150 : decode cX23_match 150 = .ok (.ifCond .eq 90, 3) := by decide +kernel
theorem eX23_match_153 : decode cX23_match 153 = .ok (.aload_n 0, 1) := by decide +kernel
theorem eX23_match_154 : decode cX23_match 154 = .ok (.bipush 64, 2) := by decide +kernel
theorem eX23_match_156 : decode cX23_match 156 = .ok (.invokevirtual 93, 3) := by decide +kernel
theorem eX23_match_159 : decode cX23_match 159 = .ok (.ifCond .ne 81, 3) := by decide +kernel
theorem eX23_match_162 : decode cX23_match 162 = .ok (.aload_n 1, 1) := by decide +kernel
theorem eX23_match_163 : decode cX23_match 163 = .ok (.getfield 305, 3) := by decide +kernel
theorem eX23_match_166 : decode cX23_match 166 = .ok (.aload_n 1, 1) := by decide +kernel
theorem eX23_match_167 : decode cX23_match 167 = .ok (.getfield 317, 3) := by decide +kernel
theorem eX23_match_170 : decode cX23_match 170 = .ok (.arraylength, 1) := by decide +kernel
theorem eX23_match_171 : decode cX23_match 171 = .ok (.if_icmp .ne 43, 3) := by decide +kernel
theorem eX23_match_174 : decode cX23_match 174 = .ok (.iconst 2, 1) := by decide +kernel
theorem eX23_match_175 : decode cX23_match 175 = .ok (.aload_n 1, 1) := by decide +kernel
theorem eX23_match_176 : decode cX23_match 176 = .ok (.getfield 305, 3) := by decide +kernel
theorem eX23_match_179 : decode cX23_match 179 = .ok (.imul, 1) := by decide +kernel
theorem eX23_match_180 : decode cX23_match 180 = .ok (.anewarray 315, 3) := by decide +kernel
theorem eX23_match_183 : decode cX23_match 183 = .ok (.astore_n 2, 1) := by decide +kernel
theorem eX23_match_184 : decode cX23_match 184 = .ok (.iconst 0, 1) := by decide +kernel
theorem eX23_match_185 : decode cX23_match 185 = .ok (.istore_n 3, 1) := by decide +kernel
theorem eX23_match_186 : decode cX23_match 186 = .ok (.iload_n 3, 1) := by decide +kernel
theorem eX23_match_187 : decode cX23_match 187 = .ok (.aload_n 1, 1) := by decide +kernel
theorem eX23_match_188 : decode cX23_match 188 = .ok (.getfield 305, 3) := by decide +kernel
theorem eX23_match_191 : decode cX23_match 191 = .ok (.if_icmp .ge 18, 3) := by decide +kernel
theorem eX23_match_194 : decode cX23_match 194 = .ok (.aload_n 2, 1) := by decide +kernel
theorem eX23_match_195 : decode cX23_match 195 = .ok (.iload_n 3, 1) := by decide +kernel
theorem eX23_match_196 : decode cX23_match 196 = .ok (.aload_n 1, 1) := by decide +kernel
theorem eX23_match_197 : decode cX23_match 197 = .ok (.getfield 317, 3) := by decide +kernel
theorem eX23_match_200 : decode cX23_match 200 = .ok (.iload_n 3, 1) := by decide +kernel
theorem eX23_match_201 : decode cX23_match 201 = .ok (.aaload, 1) := by decide +kernel
theorem eX23_match_202 : decode cX23_match 202 = .ok (.aastore, 1) := by decide +kernel
theorem eX23_match_203 : decode cX23_match 203 = .ok (.iinc 3 1, 3) := by decide +kernel
theorem eX23_match_206 : decode cX23_match 206 = .ok (.goto (-20), 3) := by decide +kernel
theorem eX23_match_209 : decode cX23_match 209 = .ok (.aload_n 1, 1) := by decide +kernel
theorem eX23_match_210 : decode cX23_match 210 = .ok (.aload_n 2, 1) := by decide +kernel
theorem eX23_match_211 : decode cX23_match 211 = .ok (.putfield 317, 3) := by decide +kernel
theorem eX23_match_214 : decode cX23_match 214 = .ok (.aload_n 1, 1) := by decide +kernel
theorem eX23_match_215 : decode cX23_match 215 = .ok (.getfield 317, 3) := by decide +kernel
theorem eX23_match_218 : decode cX23_match 218 = .ok (.aload_n 1, 1) := by decide +kernel
theorem eX23_match_219 : decode cX23_match 219 = .ok (.getfield 305, 3) := by decide +kernel
theorem eX23_match_222 : decode cX23_match 222 = .ok (.aload_n 0, 1) := by decide +kernel
theorem eX23_match_223 : decode cX23_match 223 = .ok (.invokevirtual 321, 3) := by decide +kernel
theorem eX23_match_226 : decode cX23_match 226 = .ok (.aastore, 1) := by decide +kernel
theorem eX23_match_227 : decode cX23_match 227 = .ok (.aload_n 1, 1) := by decide +kernel
theorem eX23_match_228 : decode cX23_match 228 = .ok (.dup, 1) := by decide +kernel
theorem eX23_match_229 : decode cX23_match 229 = .ok (.getfield 305, 3) := by decide +kernel
theorem eX23_match_232 : decode cX23_match 232 = .ok (.iconst 1, 1) := by decide +kernel
theorem eX23_match_233 : decode cX23_match 233 = .ok (.iadd, 1) := by decide +kernel
theorem eX23_match_234 : decode cX23_match 234 = .ok (.putfield 305, 3) := by decide +kernel
theorem eX23_match_237 : decode cX23_match 237 = .ok (.goto (-91), 3) := by decide +kernel
theorem eX23_match_240 : decode cX23_match 240 = .ok (.aload_n 0, 1) := by decide +kernel
theorem eX23_match_241 : decode cX23_match 241 = .ok (.dup, 1) := by decide +kernel
theorem eX23_match_242 : decode cX23_match 242 = .ok (.getfield 104, 3) := by decide +kernel
theorem eX23_match_245 : decode cX23_match 245 = .ok (.iconst 1, 1) := by decide +kernel
theorem eX23_match_246 : decode cX23_match 246 = .ok (.isub, 1) := by decide +kernel
theorem eX23_match_247 : decode cX23_match 247 = .ok (.putfield 104, 3) := by decide +kernel
theorem eX23_match_250 : decode cX23_match 250 = .ok (.aload_n 0, 1) := by decide +kernel
theorem eX23_match_251 : decode cX23_match 251 = .ok (.bipush 64, 2) := by decide +kernel
theorem eX23_match_253 : decode cX23_match 253 = .ok (.invokevirtual 100, 3) := by decide +kernel
theorem eX23_match_256 : decode cX23_match 256 = .ok (.return_, 1) := by decide +kernel
theorem eX23_branch_0 : decode cX23_branch 0 = .ok (.aload_n 1, 1) := by decide +kernel
theorem eX23_branch_1 : decode cX23_branch 1 = .ok (.iconst 3, 1) := by decide +kernel
theorem eX23_branch_2 : decode cX23_branch 2 = .ok (.putfield 263, 3) := by decide +kernel
theorem eX23_branch_5 : decode cX23_branch 5 = .ok (.aload_n 1, 1) := by decide +kernel
theorem eX23_branch_6 : decode cX23_branch 6 = .ok (.iconst 4, 1) := by decide +kernel
theorem eX23_branch_7 : decode cX23_branch 7 = .ok (.anewarray 295, 3) := by decide +kernel
theorem eX23_branch_10 : decode cX23_branch 10 = .ok (.putfield 297, 3) := by decide +kernel
theorem eX23_branch_13 : decode cX23_branch 13 = .ok (.aload_n 1, 1) := by decide +kernel
theorem eX23_branch_14 : decode cX23_branch 14 = .ok (.iconst 4, 1) := by decide +kernel
theorem eX23_branch_15 : decode cX23_branch 15 = .ok (.anewarray 236, 3) := by decide +kernel
theorem eX23_branch_18 : decode cX23_branch 18 = .ok (.putfield 301, 3) := by decide +kernel
theorem eX23_branch_21 : decode cX23_branch 21 = .ok (.iconst 1, 1) := by decide +kernel
theorem eX23_branch_22 : decode cX23_branch 22 = .ok (.istore_n 2, 1) := by decide +kernel
theorem eX23_branch_23 : decode cX23_branch 23 = .ok (.aload_n 0, 1) := by decide +kernel
theorem eX23_branch_24 : decode cX23_branch 24 = .ok (.invokevirtual 89, 3) := by decide +kernel
theorem eX23_branch_27 : decode cX23_branch 27 = .ok (.ifCond .eq 92, 3) := by decide +kernel
theorem eX23_branch_30 : decode cX23_branch 30 = .ok (.iload_n 2, 1) := by decide +kernel
theorem eX23_branch_31 : decode cX23_branch 31 = .ok (.ifCond .eq 88, 3) := by decide +kernel
theorem eX23_branch_34 : decode cX23_branch 34 = .ok (.aload_n 1, 1) := by decide +kernel
theorem eX23_branch_35 : decode cX23_branch 35 = .ok (.getfield 305, 3) := by decide +kernel
theorem eX23_branch_38 : decode cX23_branch 38 = .ok (.aload_n 1, 1) := by decide +kernel
theorem eX23_branch_39 : decode cX23_branch 39 = .ok (.getfield 301, 3) := by decide +kernel
theorem eX23_branch_42 : decode cX23_branch 42 = .ok (.arraylength, 1) := by decide +kernel
theorem eX23_branch_43 : decode cX23_branch 43 = .ok (.if_icmp .ne 7, 3) := by decide +kernel
theorem eX23_branch_46 : decode cX23_branch 46 = .ok (.aload_n 1, 1) := by decide +kernel
theorem eX23_branch_47 : decode cX23_branch 47 = .ok (.invokestatic 306, 3) := by decide +kernel
theorem eX23_branch_50 : decode cX23_branch 50 = .ok (.aload_n 0, 1) := by decide +kernel
theorem eX23_branch_51 : decode cX23_branch 51 = .ok (.bipush 15, 2) := by decide +kernel
theorem eX23_branch_53 : decode cX23_branch 53 = .ok (.invokevirtual 125, 3) := by decide +kernel
theorem eX23_branch_56 : decode cX23_branch 56 = .ok (.istore_n 3, 1) := by decide +kernel
theorem eX23_branch_57 : decode cX23_branch 57 = .ok (.iload_n 3, 1) := by decide +kernel
theorem eX23_branch_58 : decode cX23_branch 58 = .ok (.ifCond .eq 16, 3) := by decide +kernel
theorem eX23_branch_61 : decode cX23_branch 61 = .ok (.aload_n 1, 1) := by decide +kernel
theorem eX23_branch_62 : decode cX23_branch 62 = .ok (.getfield 297, 3) := by decide +kernel
theorem eX23_branch_65 : decode cX23_branch 65 = .ok (.aload_n 1, 1) := by decide +kernel
theorem eX23_branch_66 : decode cX23_branch 66 = .ok (.getfield 305, 3) := by decide +kernel
theorem eX23_branch_69 : decode cX23_branch 69 = .ok (.aload_n 0, 1) := by decide +kernel
theorem eX23_branch_70 : decode cX23_branch 70 = .ok (.invokevirtual 264, 3) := by decide +kernel
theorem eX23_branch_73 : decode cX23_branch 73 = .ok (.aastore, 1) := by decide +kernel
theorem eX23_branch_74 : decode cX23_branch 74 = .ok (.aload_n 1, 1) := by decide +kernel
theorem eX23_branch_75 : decode cX23_branch 75 = .ok (.getfield 301, 3) := by decide +kernel
theorem eX23_branch_78 : decode cX23_branch 78 = .ok (.aload_n 1, 1) := by decide +kernel
theorem eX23_branch_79 : decode cX23_branch 79 = .ok (.getfield 305, 3) := by decide +kernel
theorem eX23_branch_82 : decode cX23_branch 82 = .ok (.aload_n 0, 1) := by decide +kernel
theorem eX23_branch_83 : decode cX23_branch 83 = .ok (.invokevirtual 213, 3) := by decide +kernel
theorem eX23_branch_86 : decode cX23_branch 86 = .ok (.aastore, 1) := by decide +kernel
theorem eX23_branch_87 : decode cX23_branch 87 = .ok (.aload_n 1, 1) := by decide +kernel
theorem eX23_branch_88 : decode cX23_branch 88 = .ok (.dup, 1) := by decide +kernel
theorem eX23_branch_89 : decode cX23_branch 89 = .ok (.getfield 305, 3) := by decide +kernel
theorem eX23_branch_92 : decode cX23_branch 92 = .ok (.iconst 1, 1) := by decide +kernel
theorem eX23_branch_93 : decode cX23_branch 93 = .ok (.iadd, 1) := by decide +kernel
theorem eX23_branch_94 : decode cX23_branch 94 = .ok (.putfield 305, 3) := by decide +kernel
theorem eX23_branch_97 : decode cX23_branch 97 = .ok (.iload_n 3, 1) := by decide +kernel
theorem eX23_branch_98 : decode cX23_branch 98 = .ok (.ifCond .eq 16, 3) := by decide +kernel
theorem eX23_branch_101 : decode cX23_branch 101 = .ok (.aload_n 0, 1) := by decide +kernel
theorem eX23_branch_102 : decode cX23_branch 102 = .ok (.bipush 16, 2) := by decide +kernel
theorem eX23_branch_104 : decode cX23_branch 104 = .ok (.invokevirtual 125, 3) := by decide +kernel
theorem eX23_branch_107 : decode cX23_branch 107 = .ok (.ifCond .eq 7, 3) := by decide +kernel
theorem eX23_branch_110 : decode cX23_branch 110 = .ok (.iconst 1, 1) := by decide +kernel
theorem eX23_branch_111 : decode cX23_branch 111 = .ok (.goto 4, 3) := by decide +kernel
theorem eX23_branch_114 : decode cX23_branch 114 = .ok (.iconst 0, 1) := by decide +kernel
theorem eX23_branch_115 : decode cX23_branch 115 = .ok (.istore_n 2, 1) := by decide +kernel
theorem eX23_branch_116 : decode cX23_branch 116 = .ok (.goto (-93), 3) := by decide +kernel
theorem eX23_branch_119 : decode cX23_branch 119 = .ok (.return_, 1) := by decide +kernel
theorem eX23_statement_0 : decode cX23_statement 0 = .ok (.new 249, 3) := by decide +kernel
theorem eX23_statement_3 : decode cX23_statement 3 = .ok (.dup, 1) := by decide +kernel
theorem eX23_statement_4 : decode cX23_statement 4 = .ok (.invokespecial 254, 3) := by decide +kernel
theorem eX23_statement_7 : decode cX23_statement 7 = .ok (.astore_n 1, 1) := by decide +kernel
theorem eX23_statement_8 : decode cX23_statement 8 = .ok (.aload_n 1, 1) := by decide +kernel
theorem eX23_statement_9 : decode cX23_statement 9 = .ok (.aload_n 0, 1) := by decide +kernel
theorem eX23_statement_10 : decode cX23_statement 10 = .ok (.getfield 86, 3) := by decide +kernel
theorem eX23_statement_13 : decode cX23_statement 13 = .ok (.putfield 255, 3) := by decide +kernel
theorem eX23_statement_16 : decode cX23_statement 16 = .ok (.aload_n 0, 1) := by decide +kernel
theorem eX23_statement_17 : decode cX23_statement 17 = .ok (.getfield 25, 3) := by decide +kernel
theorem eX23_statement_20 : decode cX23_statement 20 = .ok (.aload_n 0, 1) := by decide +kernel
theorem eX23_statement_21 : decode cX23_statement 21 = .ok (.getfield 86, 3) := by decide +kernel
theorem eX23_statement_24 : decode cX23_statement 24 = .ok (.iaload, 1) := by decide +kernel
theorem eX23_statement_25 : decode cX23_statement 25 = .ok (.lookupswitch 217 #[(13, 67), (15, 75), (17, 83), (18, 117), (19, 125), (20, 167), (63, 200)], 67) := by decide +kernel
theorem eX23_statement_92 : decode cX23_statement 92 = .ok (.aload_n 0, 1) := by decide +kernel
theorem eX23_statement_93 : decode cX23_statement 93 = .ok (.aload_n 1, 1) := by decide +kernel
theorem eX23_statement_94 : decode cX23_statement 94 = .ok (.invokevirtual 256, 3) := by decide +kernel
theorem eX23_statement_97 : decode cX23_statement 97 = .ok (.goto 150, 3) := by decide +kernel
theorem eX23_statement_100 : decode cX23_statement 100 = .ok (.aload_n 0, 1) := by decide +kernel
theorem eX23_statement_101 : decode cX23_statement 101 = .ok (.aload_n 1, 1) := by decide +kernel
theorem eX23_statement_102 : decode cX23_statement 102 = .ok (.invokevirtual 260, 3) := by decide +kernel
theorem eX23_statement_105 : decode cX23_statement 105 = .ok (.goto 142, 3) := by decide +kernel
theorem eX23_statement_108 : decode cX23_statement 108 = .ok (.aload_n 1, 1) := by decide +kernel
theorem eX23_statement_109 : decode cX23_statement 109 = .ok (.iconst 4, 1) := by decide +kernel
theorem eX23_statement_110 : decode cX23_statement 110 = .ok (.putfield 263, 3) := by decide +kernel
theorem eX23_statement_113 : decode cX23_statement 113 = .ok (.aload_n 0, 1) := by decide +kernel
theorem eX23_statement_114 : decode cX23_statement 114 = .ok (.dup, 1) := by decide +kernel
theorem eX23_statement_115 : decode cX23_statement 115 = .ok (.getfield 86, 3) := by decide +kernel
theorem eX23_statement_118 : decode cX23_statement 118 = .ok (.iconst 1, 1) := by decide +kernel
theorem eX23_statement_119 : decode cX23_statement 119 = .ok (.iadd, 1) := by decide +kernel
theorem eX23_statement_120 : decode cX23_statement 120 = .ok (.putfield 86, 3) := by decide +kernel
theorem eX23_statement_123 : decode cX23_statement 123 = .ok (.aload_n 1, 1) := by decide +kernel
theorem eX23_statement_124 : decode cX23_statement 124 = .ok (.aload_n 0, 1) := by decide +kernel
theorem eX23_statement_125 : decode cX23_statement 125 = .ok (.invokevirtual 264, 3) := by decide +kernel
theorem eX23_statement_128 : decode cX23_statement 128 = .ok (.putfield 268, 3) := by decide +kernel
theorem eX23_statement_131 : decode cX23_statement 131 = .ok (.aload_n 1, 1) := by decide +kernel
theorem eX23_statement_132 : decode cX23_statement 132 = .ok (.aload_n 0, 1) := by decide +kernel
theorem eX23_statement_133 : decode cX23_statement 133 = .ok (.invokevirtual 213, 3) := by decide +kernel
theorem eX23_statement_136 : decode cX23_statement 136 = .ok (.putfield 271, 3) := by decide +kernel
theorem eX23_statement_139 : decode cX23_statement 139 = .ok (.goto 108, 3) := by decide +kernel
theorem eX23_statement_142 : decode cX23_statement 142 = .ok (.aload_n 0, 1) := by decide +kernel
theorem eX23_statement_143 : decode cX23_statement 143 = .ok (.aload_n 1, 1) := by decide +kernel
theorem eX23_statement_144 : decode cX23_statement 144 = .ok (.invokevirtual 272, 3) := by decide +kernel
theorem eX23_statement_147 : decode cX23_statement 147 = .ok (.goto 100, 3) := by decide +kernel
theorem eX23_statement_150 : decode cX23_statement 150 = .ok (.aload_n 1, 1) := by decide +kernel
theorem eX23_statement_151 : decode cX23_statement 151 = .ok (.bipush 6, 2) := by decide +kernel
theorem eX23_statement_153 : decode cX23_statement 153 = .ok (.putfield 263, 3) := by decide +kernel
theorem eX23_statement_156 : decode cX23_statement 156 = .ok (.aload_n 0, 1) := by decide +kernel
theorem eX23_statement_157 : decode cX23_statement 157 = .ok (.dup, 1) := by decide +kernel
theorem eX23_statement_158 : decode cX23_statement 158 = .ok (.getfield 86, 3) := by decide +kernel
theorem eX23_statement_161 : decode cX23_statement 161 = .ok (.iconst 1, 1) := by decide +kernel
theorem eX23_statement_162 : decode cX23_statement 162 = .ok (.iadd, 1) := by decide +kernel
theorem eX23_statement_163 : decode cX23_statement 163 = .ok (.putfield 86, 3) := by decide +kernel
theorem eX23_statement_166 : decode cX23_statement 166 = .ok (.aload_n 0, 1) := by decide +kernel
theorem eX23_statement_167 : decode cX23_statement 167 = .ok (.bipush 60, 2) := by decide +kernel
theorem eX23_statement_169 : decode cX23_statement 169 = .ok (.invokevirtual 93, 3) := by decide +kernel
theorem eX23_statement_172 : decode cX23_statement 172 = .ok (.ifCond .ne 11, 3) := by decide +kernel
theorem eX23_statement_175 : decode cX23_statement 175 = .ok (.aload_n 1, 1) := by decide +kernel
theorem eX23_statement_176 : decode cX23_statement 176 = .ok (.aload_n 0, 1) := by decide +kernel
theorem eX23_statement_177 : decode cX23_statement 177 = .ok (.invokevirtual 264, 3) := by decide +kernel
theorem eX23_statement_180 : decode cX23_statement 180 = .ok (.putfield 268, 3) := by decide +kernel
theorem eX23_statement_183 : decode cX23_statement 183 = .ok (.aload_n 0, 1) := by decide +kernel
theorem eX23_statement_184 : decode cX23_statement 184 = .ok (.bipush 60, 2) := by decide +kernel
theorem eX23_statement_186 : decode cX23_statement 186 = .ok (.invokevirtual 100, 3) := by decide +kernel
theorem eX23_statement_189 : decode cX23_statement 189 = .ok (.goto 58, 3) := by decide +kernel
theorem eX23_statement_192 : decode cX23_statement 192 = .ok (.aload_n 1, 1) := by decide +kernel
theorem eX23_statement_193 : decode cX23_statement 193 = .ok (.bipush 7, 2) := by decide +kernel
theorem eX23_statement_195 : decode cX23_statement 195 = .ok (.putfield 263, 3) := by decide +kernel
theorem eX23_statement_198 : decode cX23_statement 198 = .ok (.aload_n 0, 1) := by decide +kernel
theorem eX23_statement_199 : decode cX23_statement 199 = .ok (.dup, 1) := by decide +kernel
theorem eX23_statement_200 : decode cX23_statement 200 = .ok (.getfield 86, 3) := by decide +kernel
theorem eX23_statement_203 : decode cX23_statement 203 = .ok (.iconst 1, 1) := by decide +kernel
theorem eX23_statement_204 : decode cX23_statement 204 = .ok (.iadd, 1) := by decide +kernel
theorem eX23_statement_205 : decode cX23_statement 205 = .ok (.putfield 86, 3) := by decide +kernel
theorem eX23_statement_208 : decode cX23_statement 208 = .ok (.aload_n 1, 1) := by decide +kernel
theorem eX23_statement_209 : decode cX23_statement 209 = .ok (.aload_n 0, 1) := by decide +kernel
theorem eX23_statement_210 : decode cX23_statement 210 = .ok (.invokevirtual 264, 3) := by decide +kernel
theorem eX23_statement_213 : decode cX23_statement 213 = .ok (.putfield 268, 3) := by decide +kernel
theorem eX23_statement_216 : decode cX23_statement 216 = .ok (.aload_n 0, 1) := by decide +kernel
theorem eX23_statement_217 : decode cX23_statement 217 = .ok (.bipush 60, 2) := by decide +kernel
theorem eX23_statement_219 : decode cX23_statement 219 = .ok (.invokevirtual 100, 3) := by decide +kernel
theorem eX23_statement_222 : decode cX23_statement 222 = .ok (.goto 25, 3) := by decide +kernel
theorem eX23_statement_225 : decode cX23_statement 225 = .ok (.aload_n 1, 1) := by decide +kernel
theorem eX23_statement_226 : decode cX23_statement 226 = .ok (.bipush 8, 2) := by decide +kernel
theorem eX23_statement_228 : decode cX23_statement 228 = .ok (.putfield 263, 3) := by decide +kernel
theorem eX23_statement_231 : decode cX23_statement 231 = .ok (.aload_n 1, 1) := by decide +kernel
theorem eX23_statement_232 : decode cX23_statement 232 = .ok (.aload_n 0, 1) := by decide +kernel
theorem eX23_statement_233 : decode cX23_statement 233 = .ok (.invokevirtual 213, 3) := by decide +kernel
theorem eX23_statement_236 : decode cX23_statement 236 = .ok (.putfield 271, 3) := by decide +kernel
theorem eX23_statement_239 : decode cX23_statement 239 = .ok (.goto 8, 3) := by decide +kernel
theorem eX23_statement_242 : decode cX23_statement 242 = .ok (.aload_n 0, 1) := by decide +kernel
theorem eX23_statement_243 : decode cX23_statement 243 = .ok (.aload_n 1, 1) := by decide +kernel
theorem eX23_statement_244 : decode cX23_statement 244 = .ok (.invokevirtual 275, 3) := by decide +kernel
theorem eX23_statement_247 : decode cX23_statement 247 = .ok (.aload_n 1, 1) := by decide +kernel
theorem eX23_statement_248 : decode cX23_statement 248 = .ok (.areturn, 1) := by decide +kernel
theorem eX23_block_0 : decode cX23_block 0 = .ok (.new 236, 3) := by decide +kernel
theorem eX23_block_3 : decode cX23_block 3 = .ok (.dup, 1) := by decide +kernel
theorem eX23_block_4 : decode cX23_block 4 = .ok (.invokespecial 238, 3) := by decide +kernel
theorem eX23_block_7 : decode cX23_block 7 = .ok (.astore_n 1, 1) := by decide +kernel
theorem eX23_block_8 : decode cX23_block 8 = .ok (.aload_n 0, 1) := by decide +kernel
theorem eX23_block_9 : decode cX23_block 9 = .ok (.invokevirtual 89, 3) := by decide +kernel
theorem eX23_block_12 : decode cX23_block 12 = .ok (.ifCond .ne 5, 3) := by decide +kernel
theorem eX23_block_15 : decode cX23_block 15 = .ok (.aload_n 1, 1) := by decide +kernel
theorem eX23_block_16 : decode cX23_block 16 = .ok (.areturn, 1) := by decide +kernel
theorem eX23_block_17 : decode cX23_block 17 = .ok (.aload_n 1, 1) := by decide +kernel
theorem eX23_block_18 : decode cX23_block 18 = .ok (.aload_n 0, 1) := by decide +kernel
theorem eX23_block_19 : decode cX23_block 19 = .ok (.getfield 86, 3) := by decide +kernel
theorem eX23_block_22 : decode cX23_block 22 = .ok (.putfield 239, 3) := by decide +kernel
theorem eX23_block_25 : decode cX23_block 25 = .ok (.aload_n 0, 1) := by decide +kernel
theorem eX23_block_26 : decode cX23_block 26 = .ok (.bipush 63, 2) := by decide +kernel
theorem eX23_block_28 : decode cX23_block 28 = .ok (.invokevirtual 93, 3) := by decide +kernel
theorem eX23_block_31 : decode cX23_block 31 = .ok (.ifCond .eq 14, 3) := by decide +kernel
theorem eX23_block_34 : decode cX23_block 34 = .ok (.aload_n 0, 1) := by decide +kernel
theorem eX23_block_35 : decode cX23_block 35 = .ok (.aload_n 0, 1) := by decide +kernel
theorem eX23_block_36 : decode cX23_block 36 = .ok (.getfield 86, 3) := by decide +kernel
theorem eX23_block_39 : decode cX23_block 39 = .ok (.invokevirtual 119, 3) := by decide +kernel
theorem eX23_block_42 : decode cX23_block 42 = .ok (.goto 13, 3) := by decide +kernel
theorem eX23_block_45 : decode cX23_block 45 = .ok (.aload_n 0, 1) := by decide +kernel
theorem eX23_block_46 : decode cX23_block 46 = .ok (.dup, 1) := by decide +kernel
theorem eX23_block_47 : decode cX23_block 47 = .ok (.getfield 104, 3) := by decide +kernel
theorem eX23_block_50 : decode cX23_block 50 = .ok (.iconst 1, 1) := by decide +kernel
theorem eX23_block_51 : decode cX23_block 51 = .ok (.iadd, 1) := by decide +kernel
theorem eX23_block_52 : decode cX23_block 52 = .ok (.putfield 104, 3) := by decide +kernel
theorem eX23_block_55 : decode cX23_block 55 = .ok (.aload_n 0, 1) := by decide +kernel
theorem eX23_block_56 : decode cX23_block 56 = .ok (.bipush 63, 2) := by decide +kernel
theorem eX23_block_58 : decode cX23_block 58 = .ok (.invokevirtual 100, 3) := by decide +kernel
theorem eX23_block_61 : decode cX23_block 61 = .ok (.aload_n 0, 1) := by decide +kernel
theorem eX23_block_62 : decode cX23_block 62 = .ok (.invokevirtual 89, 3) := by decide +kernel
theorem eX23_block_65 : decode cX23_block 65 = .ok (.ifCond .eq 96, 3) := by decide +kernel
theorem eX23_block_68 : decode cX23_block 68 = .ok (.aload_n 0, 1) := by decide +kernel
theorem eX23_block_69 : decode cX23_block 69 = .ok (.bipush 64, 2) := by decide +kernel
theorem eX23_block_71 : decode cX23_block 71 = .ok (.invokevirtual 93, 3) := by decide +kernel
theorem eX23_block_74 : decode cX23_block 74 = .ok (.ifCond .ne 87, 3) := by decide +kernel
theorem eX23_block_77 : decode cX23_block 77 = .ok (.aload_n 0, 1) := by decide +kernel
theorem eX23_block_78 : decode cX23_block 78 = .ok (.invokevirtual 240, 3) := by decide +kernel
theorem eX23_block_81 : decode cX23_block 81 = .ok (.astore_n 2, 1) := by decide +kernel
theorem eX23_block_82 : decode cX23_block 82 = .ok (.aload_n 1, 1) := by decide +kernel
theorem eX23_block_83 : decode cX23_block 83 = .ok (.getfield 244, 3) := by decide +kernel
theorem eX23_block_86 : decode cX23_block 86 = .ok (.aload_n 1, 1) := by decide +kernel
theorem eX23_block_87 : decode cX23_block 87 = .ok (.getfield 245, 3) := by decide +kernel
theorem eX23_block_90 : decode cX23_block 90 = .ok (.arraylength, 1) := by decide +kernel
theorem eX23_block_91 : decode cX23_block 91 = .ok (.if_icmp .ne 47, 3) := by decide +kernel
theorem eX23_block_94 : decode cX23_block 94 = .ok (.iconst 2, 1) := by decide +kernel
theorem eX23_block_95 : decode cX23_block 95 = .ok (.aload_n 1, 1) := by decide +kernel
theorem eX23_block_96 : decode cX23_block 96 = .ok (.getfield 244, 3) := by decide +kernel
theorem eX23_block_99 : decode cX23_block 99 = .ok (.imul, 1) := by decide +kernel
theorem eX23_block_100 : decode cX23_block 100 = .ok (.anewarray 249, 3) := by decide +kernel
theorem eX23_block_103 : decode cX23_block 103 = .ok (.astore_n 3, 1) := by decide +kernel
theorem eX23_block_104 : decode cX23_block 104 = .ok (.iconst 0, 1) := by decide +kernel
theorem eX23_block_105 : decode cX23_block 105 = .ok (.istore 4, 2) := by decide +kernel
theorem eX23_block_107 : decode cX23_block 107 = .ok (.iload 4, 2) := by decide +kernel
theorem eX23_block_109 : decode cX23_block 109 = .ok (.aload_n 1, 1) := by decide +kernel
theorem eX23_block_110 : decode cX23_block 110 = .ok (.getfield 244, 3) := by decide +kernel
theorem eX23_block_113 : decode cX23_block 113 = .ok (.if_icmp .ge 20, 3) := by decide +kernel
theorem eX23_block_116 : decode cX23_block 116 = .ok (.aload_n 3, 1) := by decide +kernel
theorem eX23_block_117 : decode cX23_block 117 = .ok (.iload 4, 2) := by decide +kernel
theorem eX23_block_119 : decode cX23_block 119 = .ok (.aload_n 1, 1) := by decide +kernel
theorem eX23_block_120 : decode cX23_block 120 = .ok (.getfield 245, 3) := by decide +kernel
theorem eX23_block_123 : decode cX23_block 123 = .ok (.iload 4, 2) := by decide +kernel
theorem eX23_block_125 : decode cX23_block 125 = .ok (.aaload, 1) := by decide +kernel
theorem eX23_block_126 : decode cX23_block 126 = .ok (.aastore, 1) := by decide +kernel
theorem eX23_block_127 : decode cX23_block 127 = .ok (.iinc 4 1, 3) := by decide +kernel
theorem eX23_block_130 : decode cX23_block 130 = .ok (.goto (-23), 3) := by decide +kernel
theorem eX23_block_133 : decode cX23_block 133 = .ok (.aload_n 1, 1) := by decide +kernel
theorem eX23_block_134 : decode cX23_block 134 = .ok (.aload_n 3, 1) := by decide +kernel
theorem eX23_block_135 : decode cX23_block 135 = .ok (.putfield 245, 3) := by decide +kernel
theorem eX23_block_138 : decode cX23_block 138 = .ok (.aload_n 1, 1) := by decide +kernel
theorem eX23_block_139 : decode cX23_block 139 = .ok (.getfield 245, 3) := by decide +kernel
theorem eX23_block_142 : decode cX23_block 142 = .ok (.aload_n 1, 1) := by decide +kernel
theorem eX23_block_143 : decode cX23_block 143 = .ok (.getfield 244, 3) := by decide +kernel
theorem eX23_block_146 : decode cX23_block 146 = .ok (.aload_n 2, 1) := by decide +kernel
theorem eX23_block_147 : decode cX23_block 147 = .ok (.aastore, 1) := by decide +kernel
theorem eX23_block_148 : decode cX23_block 148 = .ok (.aload_n 1, 1) := by decide +kernel
theorem eX23_block_149 : decode cX23_block 149 = .ok (.dup, 1) := by decide +kernel
theorem eX23_block_150 : decode cX23_block 150 = .ok (.getfield 244, 3) := by decide +kernel
theorem eX23_block_153 : decode cX23_block 153 = .ok (.iconst 1, 1) := by decide +kernel
theorem eX23_block_154 : decode cX23_block 154 = .ok (.iadd, 1) := by decide +kernel
theorem eX23_block_155 : decode cX23_block 155 = .ok (.putfield 244, 3) := by decide +kernel
theorem eX23_block_158 : decode cX23_block 158 = .ok (.goto (-97), 3) := by decide +kernel
theorem eX23_block_161 : decode cX23_block 161 = .ok (.aload_n 0, 1) := by decide +kernel
theorem eX23_block_162 : decode cX23_block 162 = .ok (.dup, 1) := by decide +kernel
theorem eX23_block_163 : decode cX23_block 163 = .ok (.getfield 104, 3) := by decide +kernel
theorem eX23_block_166 : decode cX23_block 166 = .ok (.iconst 1, 1) := by decide +kernel
theorem eX23_block_167 : decode cX23_block 167 = .ok (.isub, 1) := by decide +kernel
theorem eX23_block_168 : decode cX23_block 168 = .ok (.putfield 104, 3) := by decide +kernel
theorem eX23_block_171 : decode cX23_block 171 = .ok (.aload_n 1, 1) := by decide +kernel
theorem eX23_block_172 : decode cX23_block 172 = .ok (.aload_n 0, 1) := by decide +kernel
theorem eX23_block_173 : decode cX23_block 173 = .ok (.getfield 86, 3) := by decide +kernel
theorem eX23_block_176 : decode cX23_block 176 = .ok (.putfield 251, 3) := by decide +kernel
theorem eX23_block_179 : decode cX23_block 179 = .ok (.aload_n 0, 1) := by decide +kernel
theorem eX23_block_180 : decode cX23_block 180 = .ok (.bipush 64, 2) := by decide +kernel
theorem eX23_block_182 : decode cX23_block 182 = .ok (.invokevirtual 100, 3) := by decide +kernel
theorem eX23_block_185 : decode cX23_block 185 = .ok (.aload_n 1, 1) := by decide +kernel
theorem eX23_block_186 : decode cX23_block 186 = .ok (.areturn, 1) := by decide +kernel
theorem eX23_function_0 : decode cX23_function 0 = .ok (.aload_n 0, 1) := by decide +kernel
theorem eX23_function_1 : decode cX23_function 1 = .ok (.getfield 189, 3) := by decide +kernel
theorem eX23_function_4 : decode cX23_function 4 = .ok (.bipush 40, 2) := by decide +kernel
theorem eX23_function_6 : decode cX23_function 6 = .ok (.if_icmp .ne 12, 3) := by decide +kernel
theorem eX23_function_9 : decode cX23_function 9 = .ok (.aload_n 0, 1) := by decide +kernel
theorem eX23_function_10 : decode cX23_function 10 = .ok (.iconst 2, 1) := by decide +kernel
theorem eX23_function_11 : decode cX23_function 11 = .ok (.aload_n 0, 1) := by decide +kernel
theorem eX23_function_12 : decode cX23_function 12 = .ok (.getfield 86, 3) := by decide +kernel
theorem eX23_function_15 : decode cX23_function 15 = .ok (.invokevirtual 96, 3) := by decide +kernel
theorem eX23_function_18 : decode cX23_function 18 = .ok (.aload_n 0, 1) := by decide +kernel
theorem eX23_function_19 : decode cX23_function 19 = .ok (.dup, 1) := by decide +kernel
theorem eX23_function_20 : decode cX23_function 20 = .ok (.getfield 189, 3) := by decide +kernel
theorem eX23_function_23 : decode cX23_function 23 = .ok (.iconst 1, 1) := by decide +kernel
theorem eX23_function_24 : decode cX23_function 24 = .ok (.iadd, 1) := by decide +kernel
theorem eX23_function_25 : decode cX23_function 25 = .ok (.putfield 189, 3) := by decide +kernel
theorem eX23_function_28 : decode cX23_function 28 = .ok (.aload_n 0, 1) := by decide +kernel
theorem eX23_function_29 : decode cX23_function 29 = .ok (.dup, 1) := by decide +kernel
theorem eX23_function_30 : decode cX23_function 30 = .ok (.getfield 86, 3) := by decide +kernel
theorem eX23_function_33 : decode cX23_function 33 = .ok (.iconst 1, 1) := by decide +kernel
theorem eX23_function_34 : decode cX23_function 34 = .ok (.iadd, 1) := by decide +kernel
theorem eX23_function_35 : decode cX23_function 35 = .ok (.putfield 86, 3) := by decide +kernel
theorem eX23_function_38 : decode cX23_function 38 = .ok (.aload_n 1, 1) := by decide +kernel
theorem eX23_function_39 : decode cX23_function 39 = .ok (.bipush 13, 2) := by decide +kernel
theorem eX23_function_41 : decode cX23_function 41 = .ok (.anewarray 107, 3) := by decide +kernel
theorem eX23_function_44 : decode cX23_function 44 = .ok (.putfield 153, 3) := by decide +kernel
theorem eX23_function_47 : decode cX23_function 47 = .ok (.aload_n 1, 1) := by decide +kernel
theorem eX23_function_48 : decode cX23_function 48 = .ok (.bipush 13, 2) := by decide +kernel
theorem eX23_function_50 : decode cX23_function 50 = .ok (.anewarray 164, 3) := by decide +kernel
theorem eX23_function_53 : decode cX23_function 53 = .ok (.putfield 175, 3) := by decide +kernel
theorem eX23_function_56 : decode cX23_function 56 = .ok (.aload_n 1, 1) := by decide +kernel
theorem eX23_function_57 : decode cX23_function 57 = .ok (.bipush 13, 2) := by decide +kernel
theorem eX23_function_59 : decode cX23_function 59 = .ok (.anewarray 192, 3) := by decide +kernel
theorem eX23_function_62 : decode cX23_function 62 = .ok (.putfield 194, 3) := by decide +kernel
theorem eX23_function_65 : decode cX23_function 65 = .ok (.aload_n 1, 1) := by decide +kernel
theorem eX23_function_66 : decode cX23_function 66 = .ok (.bipush 8, 2) := by decide +kernel
theorem eX23_function_68 : decode cX23_function 68 = .ok (.newarray .int, 2) := by decide +kernel
theorem eX23_function_70 : decode cX23_function 70 = .ok (.putfield 187, 3) := by decide +kernel
theorem eX23_function_73 : decode cX23_function 73 = .ok (.aload_n 1, 1) := by decide +kernel
theorem eX23_function_74 : decode cX23_function 74 = .ok (.bipush 13, 2) := by decide +kernel
theorem eX23_function_76 : decode cX23_function 76 = .ok (.newarray .int, 2) := by decide +kernel
theorem eX23_function_78 : decode cX23_function 78 = .ok (.putfield 198, 3) := by decide +kernel
theorem eX23_function_81 : decode cX23_function 81 = .ok (.aload_n 1, 1) := by decide +kernel
theorem eX23_function_82 : decode cX23_function 82 = .ok (.aload_n 0, 1) := by decide +kernel
theorem eX23_function_83 : decode cX23_function 83 = .ok (.invokevirtual 150, 3) := by decide +kernel
theorem eX23_function_86 : decode cX23_function 86 = .ok (.putfield 176, 3) := by decide +kernel
theorem eX23_function_89 : decode cX23_function 89 = .ok (.aload_n 0, 1) := by decide +kernel
theorem eX23_function_90 : decode cX23_function 90 = .ok (.bipush 47, 2) := by decide +kernel
theorem eX23_function_92 : decode cX23_function 92 = .ok (.invokevirtual 125, 3) := by decide +kernel
theorem eX23_function_95 : decode cX23_function 95 = .ok (.ifCond .eq 8, 3) := by decide +kernel
theorem eX23_function_98 : decode cX23_function 98 = .ok (.aload_n 0, 1) := by decide +kernel
theorem eX23_function_99 : decode cX23_function 99 = .ok (.aload_n 1, 1) := by decide +kernel
theorem eX23_function_100 : decode cX23_function 100 = .ok (.invokevirtual 201, 3) := by decide +kernel
theorem eX23_function_103 : decode cX23_function 103 = .ok (.aload_n 0, 1) := by decide +kernel
theorem eX23_function_104 : decode cX23_function 104 = .ok (.iconst 0, 1) := by decide +kernel
theorem eX23_function_105 : decode cX23_function 105 = .ok (.putfield 104, 3) := by decide +kernel
theorem eX23_function_108 : decode cX23_function 108 = .ok (.aload_n 0, 1) := by decide +kernel
theorem eX23_function_109 : decode cX23_function 109 = .ok (.iconst 0, 1) := by decide +kernel
theorem eX23_function_110 : decode cX23_function 110 = .ok (.putfield 204, 3) := by decide +kernel
theorem eX23_function_113 : decode cX23_function 113 = .ok (.aload_n 0, 1) := by decide +kernel
theorem eX23_function_114 : decode cX23_function 114 = .ok (.iconst 0, 1) := by decide +kernel
theorem eX23_function_115 : decode cX23_function 115 = .ok (.putfield 207, 3) := by decide +kernel
theorem eX23_function_118 : decode cX23_function 118 = .ok (.aload_n 0, 1) := by decide +kernel
theorem eX23_function_119 : decode cX23_function 119 = .ok (.bipush 61, 2) := by decide +kernel
theorem eX23_function_121 : decode cX23_function 121 = .ok (.invokevirtual 100, 3) := by decide +kernel
theorem eX23_function_124 : decode cX23_function 124 = .ok (.aload_n 0, 1) := by decide +kernel
theorem eX23_function_125 : decode cX23_function 125 = .ok (.bipush 62, 2) := by decide +kernel
theorem eX23_function_127 : decode cX23_function 127 = .ok (.invokevirtual 125, 3) := by decide +kernel
theorem eX23_function_130 : decode cX23_function 130 = .ok (.ifCond .ne 47, 3) := by decide +kernel
theorem eX23_function_133 : decode cX23_function 133 = .ok (.iconst 1, 1) := by decide +kernel
theorem eX23_function_134 : decode cX23_function 134 = .ok (.istore_n 2, 1) := by decide +kernel
theorem eX23_function_135 : decode cX23_function 135 = .ok (.aload_n 0, 1) := by decide +kernel
theorem eX23_function_136 : decode cX23_function 136 = .ok (.invokevirtual 89, 3) := by decide +kernel
theorem eX23_function_139 : decode cX23_function 139 = .ok (.ifCond .eq 32, 3) := by decide +kernel
theorem eX23_function_142 : decode cX23_function 142 = .ok (.iload_n 2, 1) := by decide +kernel
theorem eX23_function_143 : decode cX23_function 143 = .ok (.ifCond .eq 28, 3) := by decide +kernel
theorem eX23_function_146 : decode cX23_function 146 = .ok (.aload_n 0, 1) := by decide +kernel
theorem eX23_function_147 : decode cX23_function 147 = .ok (.aload_n 1, 1) := by decide +kernel
theorem eX23_function_148 : decode cX23_function 148 = .ok (.invokevirtual 177, 3) := by decide +kernel
theorem eX23_function_151 : decode cX23_function 151 = .ok (.aload_n 0, 1) := by decide +kernel
theorem eX23_function_152 : decode cX23_function 152 = .ok (.dup, 1) := by decide +kernel
theorem eX23_function_153 : decode cX23_function 153 = .ok (.getfield 204, 3) := by decide +kernel
theorem eX23_function_156 : decode cX23_function 156 = .ok (.iconst 1, 1) := by decide +kernel
theorem eX23_function_157 : decode cX23_function 157 = .ok (.iadd, 1) := by decide +kernel
theorem eX23_function_158 : decode cX23_function 158 = .ok (.putfield 204, 3) := by decide +kernel
theorem eX23_function_161 : decode cX23_function 161 = .ok (.aload_n 0, 1) := by decide +kernel
theorem eX23_function_162 : decode cX23_function 162 = .ok (.bipush 57, 2) := by decide +kernel
theorem eX23_function_164 : decode cX23_function 164 = .ok (.invokevirtual 125, 3) := by decide +kernel
theorem eX23_function_167 : decode cX23_function 167 = .ok (.istore_n 2, 1) := by decide +kernel
theorem eX23_function_168 : decode cX23_function 168 = .ok (.goto (-33), 3) := by decide +kernel
theorem eX23_function_171 : decode cX23_function 171 = .ok (.aload_n 0, 1) := by decide +kernel
theorem eX23_function_172 : decode cX23_function 172 = .ok (.bipush 62, 2) := by decide +kernel
theorem eX23_function_174 : decode cX23_function 174 = .ok (.invokevirtual 100, 3) := by decide +kernel
theorem eX23_function_177 : decode cX23_function 177 = .ok (.aload_n 0, 1) := by decide +kernel
theorem eX23_function_178 : decode cX23_function 178 = .ok (.bipush 65, 2) := by decide +kernel
theorem eX23_function_180 : decode cX23_function 180 = .ok (.invokevirtual 125, 3) := by decide +kernel
theorem eX23_function_183 : decode cX23_function 183 = .ok (.ifCond .eq 11, 3) := by decide +kernel
theorem eX23_function_186 : decode cX23_function 186 = .ok (.aload_n 1, 1) := by decide +kernel
theorem eX23_function_187 : decode cX23_function 187 = .ok (.aload_n 0, 1) := by decide +kernel
theorem eX23_function_188 : decode cX23_function 188 = .ok (.invokevirtual 131, 3) := by decide +kernel
theorem eX23_function_191 : decode cX23_function 191 = .ok (.putfield 210, 3) := by decide +kernel
theorem eX23_function_194 : decode cX23_function 194 = .ok (.aload_n 1, 1) := by decide +kernel
theorem eX23_function_195 : decode cX23_function 195 = .ok (.aload_n 0, 1) := by decide +kernel
theorem eX23_function_196 : decode cX23_function 196 = .ok (.invokevirtual 213, 3) := by decide +kernel
theorem eX23_function_199 : decode cX23_function 199 = .ok (.putfield 217, 3) := by decide +kernel
theorem eX23_function_202 : decode cX23_function 202 = .ok (.aload_n 1, 1) := by decide +kernel
theorem eX23_function_203 : decode cX23_function 203 = .ok (.aload_n 0, 1) := by decide +kernel
theorem eX23_function_204 : decode cX23_function 204 = .ok (.getfield 204, 3) := by decide +kernel
theorem eX23_function_207 : decode cX23_function 207 = .ok (.putfield 220, 3) := by decide +kernel
theorem eX23_function_210 : decode cX23_function 210 = .ok (.return_, 1) := by decide +kernel
theorem eX16_init_0 : decode cX16_init 0 = .ok (.aload_n 0, 1) := by decide +kernel
theorem eX16_init_1 : decode cX16_init 1 = .ok (.invokespecial 1, 3) := by decide +kernel
theorem eX16_init_4 : decode cX16_init 4 = .ok (.aload_n 0, 1) := by decide +kernel
theorem eX16_init_5 : decode cX16_init 5 = .ok (.bipush 13, 2) := by decide +kernel
theorem eX16_init_7 : decode cX16_init 7 = .ok (.newarray .int, 2) := by decide +kernel
theorem eX16_init_9 : decode cX16_init 9 = .ok (.putfield 7, 3) := by decide +kernel
theorem eX16_init_12 : decode cX16_init 12 = .ok (.return_, 1) := by decide +kernel
theorem eX23_program_0 : decode cX23_program 0 = .ok (.aload_n 0, 1) := by decide +kernel
theorem eX23_program_1 : decode cX23_program 1 = .ok (.iconst 0, 1) := by decide +kernel
theorem eX23_program_2 : decode cX23_program 2 = .ok (.putfield 221, 3) := by decide +kernel
theorem eX23_program_5 : decode cX23_program 5 = .ok (.aload_n 0, 1) := by decide +kernel
theorem eX23_program_6 : decode cX23_program 6 = .ok (.iconst 0, 1) := by decide +kernel
theorem eX23_program_7 : decode cX23_program 7 = .ok (.putfield 171, 3) := by decide +kernel
theorem eX23_program_10 : decode cX23_program 10 = .ok (.aload_n 0, 1) := by decide +kernel
theorem eX23_program_11 : decode cX23_program 11 = .ok (.iconst 0, 1) := by decide +kernel
theorem eX23_program_12 : decode cX23_program 12 = .ok (.putfield 189, 3) := by decide +kernel
theorem eX23_program_15 : decode cX23_program 15 = .ok (.aload_n 0, 1) := by decide +kernel
theorem eX23_program_16 : decode cX23_program 16 = .ok (.iconst 0, 1) := by decide +kernel
theorem eX23_program_17 : decode cX23_program 17 = .ok (.putfield 86, 3) := by decide +kernel
theorem eX23_program_20 : decode cX23_program 20 = .ok (.aload_n 0, 1) := by decide +kernel
theorem eX23_program_21 : decode cX23_program 21 = .ok (.iconst 0, 1) := by decide +kernel
theorem eX23_program_22 : decode cX23_program 22 = .ok (.putfield 104, 3) := by decide +kernel
theorem eX23_program_25 : decode cX23_program 25 = .ok (.aload_n 0, 1) := by decide +kernel
theorem eX23_program_26 : decode cX23_program 26 = .ok (.invokevirtual 89, 3) := by decide +kernel
theorem eX23_program_29 : decode cX23_program 29 = .ok (.ifCond .eq 130, 3) := by decide +kernel
theorem eX23_program_32 : decode cX23_program 32 = .ok (.aload_n 0, 1) := by decide +kernel
theorem eX23_program_33 : decode cX23_program 33 = .ok (.iconst 0, 1) := by decide +kernel
theorem eX23_program_34 : decode cX23_program 34 = .ok (.invokevirtual 93, 3) := by decide +kernel
theorem eX23_program_37 : decode cX23_program 37 = .ok (.ifCond .ne 122, 3) := by decide +kernel
theorem eX23_program_40 : decode cX23_program 40 = .ok (.aload_n 0, 1) := by decide +kernel
theorem eX23_program_41 : decode cX23_program 41 = .ok (.bipush 10, 2) := by decide +kernel
theorem eX23_program_43 : decode cX23_program 43 = .ok (.invokevirtual 93, 3) := by decide +kernel
theorem eX23_program_46 : decode cX23_program 46 = .ok (.ifCond .ne 31, 3) := by decide +kernel
theorem eX23_program_49 : decode cX23_program 49 = .ok (.aload_n 0, 1) := by decide +kernel
theorem eX23_program_50 : decode cX23_program 50 = .ok (.bipush 11, 2) := by decide +kernel
theorem eX23_program_52 : decode cX23_program 52 = .ok (.invokevirtual 93, 3) := by decide +kernel
theorem eX23_program_55 : decode cX23_program 55 = .ok (.ifCond .ne 22, 3) := by decide +kernel
theorem eX23_program_58 : decode cX23_program 58 = .ok (.aload_n 0, 1) := by decide +kernel
theorem eX23_program_59 : decode cX23_program 59 = .ok (.bipush 12, 2) := by decide +kernel
theorem eX23_program_61 : decode cX23_program 61 = .ok (.invokevirtual 93, 3) := by decide +kernel
theorem eX23_program_64 : decode cX23_program 64 = .ok (.ifCond .ne 13, 3) := by decide +kernel
theorem eX23_program_67 : decode cX23_program 67 = .ok (.aload_n 0, 1) := by decide +kernel
theorem eX23_program_68 : decode cX23_program 68 = .ok (.iconst 1, 1) := by decide +kernel
theorem eX23_program_69 : decode cX23_program 69 = .ok (.aload_n 0, 1) := by decide +kernel
theorem eX23_program_70 : decode cX23_program 70 = .ok (.getfield 86, 3) := by decide +kernel
theorem eX23_program_73 : decode cX23_program 73 = .ok (.invokevirtual 96, 3) := by decide +kernel
theorem eX23_program_76 : decode cX23_program 76 = .ok (.return_, 1) := by decide +kernel
theorem eX23_program_77 : decode cX23_program 77 = .ok (.new 140, 3) := by decide +kernel
theorem eX23_program_80 : decode cX23_program 80 = .ok (.dup, 1) := by decide +kernel
theorem eX23_program_81 : decode cX23_program 81 = .ok (.invokespecial 224, 3) := by decide +kernel
theorem eX23_program_84 : decode cX23_program 84 = .ok (.astore_n 1, 1) := by decide +kernel
theorem eX23_program_85 : decode cX23_program 85 = .ok (.aload_n 1, 1) := by decide +kernel
theorem eX23_program_86 : decode cX23_program 86 = .ok (.aload_n 0, 1) := by decide +kernel
theorem eX23_program_87 : decode cX23_program 87 = .ok (.getfield 86, 3) := by decide +kernel
theorem eX23_program_90 : decode cX23_program 90 = .ok (.putfield 225, 3) := by decide +kernel
theorem eX23_program_93 : decode cX23_program 93 = .ok (.aload_n 1, 1) := by decide +kernel
theorem eX23_program_94 : decode cX23_program 94 = .ok (.aload_n 0, 1) := by decide +kernel
theorem eX23_program_95 : decode cX23_program 95 = .ok (.getfield 25, 3) := by decide +kernel
theorem eX23_program_98 : decode cX23_program 98 = .ok (.aload_n 0, 1) := by decide +kernel
theorem eX23_program_99 : decode cX23_program 99 = .ok (.getfield 86, 3) := by decide +kernel
theorem eX23_program_102 : decode cX23_program 102 = .ok (.iaload, 1) := by decide +kernel
theorem eX23_program_103 : decode cX23_program 103 = .ok (.putfield 174, 3) := by decide +kernel
theorem eX23_program_106 : decode cX23_program 106 = .ok (.aload_n 1, 1) := by decide +kernel
theorem eX23_program_107 : decode cX23_program 107 = .ok (.getfield 174, 3) := by decide +kernel
theorem eX23_program_110 : decode cX23_program 110 = .ok (.bipush 12, 2) := by decide +kernel
theorem eX23_program_112 : decode cX23_program 112 = .ok (.if_icmp .ne 11, 3) := by decide +kernel
theorem eX23_program_115 : decode cX23_program 115 = .ok (.aload_n 0, 1) := by decide +kernel
theorem eX23_program_116 : decode cX23_program 116 = .ok (.aload_n 1, 1) := by decide +kernel
theorem eX23_program_117 : decode cX23_program 117 = .ok (.invokevirtual 226, 3) := by decide +kernel
theorem eX23_program_120 : decode cX23_program 120 = .ok (.goto 8, 3) := by decide +kernel
theorem eX23_program_123 : decode cX23_program 123 = .ok (.aload_n 0, 1) := by decide +kernel
theorem eX23_program_124 : decode cX23_program 124 = .ok (.aload_n 1, 1) := by decide +kernel
theorem eX23_program_125 : decode cX23_program 125 = .ok (.invokevirtual 229, 3) := by decide +kernel
theorem eX23_program_128 : decode cX23_program 128 = .ok (.aload_n 0, 1) := by decide +kernel
theorem eX23_program_129 : decode cX23_program 129 = .ok (.invokevirtual 89, 3) := by decide +kernel
theorem eX23_program_132 : decode cX23_program 132 = .ok (.ifCond .ne 4, 3) := by decide +kernel
theorem eX23_program_135 : decode cX23_program 135 = .ok (.return_, 1) := by decide +kernel
theorem eX23_program_136 : decode cX23_program 136 = .ok (.aload_n 0, 1) := by decide +kernel
theorem eX23_program_137 : decode cX23_program 137 = .ok (.getfield 232, 3) := by decide +kernel
theorem eX23_program_140 : decode cX23_program 140 = .ok (.aload_n 0, 1) := by decide +kernel
theorem eX23_program_141 : decode cX23_program 141 = .ok (.getfield 221, 3) := by decide +kernel
theorem eX23_program_144 : decode cX23_program 144 = .ok (.aload_n 1, 1) := by decide +kernel
theorem eX23_program_145 : decode cX23_program 145 = .ok (.aastore, 1) := by decide +kernel
theorem eX23_program_146 : decode cX23_program 146 = .ok (.aload_n 0, 1) := by decide +kernel
theorem eX23_program_147 : decode cX23_program 147 = .ok (.dup, 1) := by decide +kernel
theorem eX23_program_148 : decode cX23_program 148 = .ok (.getfield 221, 3) := by decide +kernel
theorem eX23_program_151 : decode cX23_program 151 = .ok (.iconst 1, 1) := by decide +kernel
theorem eX23_program_152 : decode cX23_program 152 = .ok (.iadd, 1) := by decide +kernel
theorem eX23_program_153 : decode cX23_program 153 = .ok (.putfield 221, 3) := by decide +kernel
theorem eX23_program_156 : decode cX23_program 156 = .ok (.goto (-131), 3) := by decide +kernel
theorem eX23_program_159 : decode cX23_program 159 = .ok (.return_, 1) := by decide +kernel
theorem eX20_init_0 : decode cX20_init 0 = .ok (.aload_n 0, 1) := by decide +kernel
theorem eX20_init_1 : decode cX20_init 1 = .ok (.invokespecial 1, 3) := by decide +kernel
theorem eX20_init_4 : decode cX20_init 4 = .ok (.return_, 1) := by decide +kernel
theorem eX23_type_0 : decode cX23_type 0 = .ok (.iconst 0, 1) := by decide +kernel
theorem eX23_type_1 : decode cX23_type 1 = .ok (.istore 4, 2) := by decide +kernel
theorem eX23_type_3 : decode cX23_type 3 = .ok (.iload 4, 2) := by decide +kernel
theorem eX23_type_5 : decode cX23_type 5 = .ok (.aload_n 0, 1) := by decide +kernel
theorem eX23_type_6 : decode cX23_type 6 = .ok (.getfield 382, 3) := by decide +kernel
theorem eX23_type_9 : decode cX23_type 9 = .ok (.if_icmp .ge 59, 3) := by decide +kernel
theorem eX23_type_12 : decode cX23_type 12 = .ok (.aload_n 0, 1) := by decide +kernel
theorem eX23_type_13 : decode cX23_type 13 = .ok (.getfield 385, 3) := by decide +kernel
theorem eX23_type_16 : decode cX23_type 16 = .ok (.iload 4, 2) := by decide +kernel
theorem eX23_type_18 : decode cX23_type 18 = .ok (.aaload, 1) := by decide +kernel
theorem eX23_type_19 : decode cX23_type 19 = .ok (.getfield 386, 3) := by decide +kernel
theorem eX23_type_22 : decode cX23_type 22 = .ok (.iload_n 1, 1) := by decide +kernel
theorem eX23_type_23 : decode cX23_type 23 = .ok (.if_icmp .ne 39, 3) := by decide +kernel
theorem eX23_type_26 : decode cX23_type 26 = .ok (.aload_n 0, 1) := by decide +kernel
theorem eX23_type_27 : decode cX23_type 27 = .ok (.getfield 385, 3) := by decide +kernel
theorem eX23_type_30 : decode cX23_type 30 = .ok (.iload 4, 2) := by decide +kernel
theorem eX23_type_32 : decode cX23_type 32 = .ok (.aaload, 1) := by decide +kernel
theorem eX23_type_33 : decode cX23_type 33 = .ok (.getfield 387, 3) := by decide +kernel
theorem eX23_type_36 : decode cX23_type 36 = .ok (.iload_n 2, 1) := by decide +kernel
theorem eX23_type_37 : decode cX23_type 37 = .ok (.if_icmp .ne 25, 3) := by decide +kernel
theorem eX23_type_40 : decode cX23_type 40 = .ok (.aload_n 0, 1) := by decide +kernel
theorem eX23_type_41 : decode cX23_type 41 = .ok (.getfield 385, 3) := by decide +kernel
theorem eX23_type_44 : decode cX23_type 44 = .ok (.iload 4, 2) := by decide +kernel
theorem eX23_type_46 : decode cX23_type 46 = .ok (.aaload, 1) := by decide +kernel
theorem eX23_type_47 : decode cX23_type 47 = .ok (.getfield 390, 3) := by decide +kernel
theorem eX23_type_50 : decode cX23_type 50 = .ok (.aload_n 3, 1) := by decide +kernel
theorem eX23_type_51 : decode cX23_type 51 = .ok (.if_acmp .ne 11, 3) := by decide +kernel
theorem eX23_type_54 : decode cX23_type 54 = .ok (.aload_n 0, 1) := by decide +kernel
theorem eX23_type_55 : decode cX23_type 55 = .ok (.getfield 385, 3) := by decide +kernel
theorem eX23_type_58 : decode cX23_type 58 = .ok (.iload 4, 2) := by decide +kernel
theorem eX23_type_60 : decode cX23_type 60 = .ok (.aaload, 1) := by decide +kernel
theorem eX23_type_61 : decode cX23_type 61 = .ok (.areturn, 1) := by decide +kernel
theorem eX23_type_62 : decode cX23_type 62 = .ok (.iinc 4 1, 3) := by decide +kernel
theorem eX23_type_65 : decode cX23_type 65 = .ok (.goto (-62), 3) := by decide +kernel
theorem eX23_type_68 : decode cX23_type 68 = .ok (.new 164, 3) := by decide +kernel
theorem eX23_type_71 : decode cX23_type 71 = .ok (.dup, 1) := by decide +kernel
theorem eX23_type_72 : decode cX23_type 72 = .ok (.invokespecial 393, 3) := by decide +kernel
theorem eX23_type_75 : decode cX23_type 75 = .ok (.astore 4, 2) := by decide +kernel
theorem eX23_type_77 : decode cX23_type 77 = .ok (.aload 4, 2) := by decide +kernel
theorem eX23_type_79 : decode cX23_type 79 = .ok (.iload_n 1, 1) := by decide +kernel
theorem eX23_type_80 : decode cX23_type 80 = .ok (.putfield 386, 3) := by decide +kernel
theorem eX23_type_83 : decode cX23_type 83 = .ok (.aload 4, 2) := by decide +kernel
theorem eX23_type_85 : decode cX23_type 85 = .ok (.iload_n 2, 1) := by decide +kernel
theorem eX23_type_86 : decode cX23_type 86 = .ok (.putfield 387, 3) := by decide +kernel
theorem eX23_type_89 : decode cX23_type 89 = .ok (.aload 4, 2) := by decide +kernel
theorem eX23_type_91 : decode cX23_type 91 = .ok (.aload_n 3, 1) := by decide +kernel
theorem eX23_type_92 : decode cX23_type 92 = .ok (.putfield 390, 3) := by decide +kernel
theorem eX23_type_95 : decode cX23_type 95 = .ok (.aload 4, 2) := by decide +kernel
theorem eX23_type_97 : decode cX23_type 97 = .ok (.aload_n 0, 1) := by decide +kernel
theorem eX23_type_98 : decode cX23_type 98 = .ok (.getfield 382, 3) := by decide +kernel
theorem eX23_type_101 : decode cX23_type 101 = .ok (.putfield 394, 3) := by decide +kernel
theorem eX23_type_104 : decode cX23_type 104 = .ok (.aload_n 0, 1) := by decide +kernel
theorem eX23_type_105 : decode cX23_type 105 = .ok (.getfield 385, 3) := by decide +kernel
theorem eX23_type_108 : decode cX23_type 108 = .ok (.aload_n 0, 1) := by decide +kernel
theorem eX23_type_109 : decode cX23_type 109 = .ok (.getfield 382, 3) := by decide +kernel
theorem eX23_type_112 : decode cX23_type 112 = .ok (.aload 4, 2) := by decide +kernel
theorem eX23_type_114 : decode cX23_type 114 = .ok (.aastore, 1) := by decide +kernel
theorem eX23_type_115 : decode cX23_type 115 = .ok (.aload_n 0, 1) := by decide +kernel
theorem eX23_type_116 : decode cX23_type 116 = .ok (.dup, 1) := by decide +kernel
theorem eX23_type_117 : decode cX23_type 117 = .ok (.getfield 382, 3) := by decide +kernel
theorem eX23_type_120 : decode cX23_type 120 = .ok (.iconst 1, 1) := by decide +kernel
theorem eX23_type_121 : decode cX23_type 121 = .ok (.iadd, 1) := by decide +kernel
theorem eX23_type_122 : decode cX23_type 122 = .ok (.putfield 382, 3) := by decide +kernel
theorem eX23_type_125 : decode cX23_type 125 = .ok (.aload 4, 2) := by decide +kernel
theorem eX23_type_127 : decode cX23_type 127 = .ok (.areturn, 1) := by decide +kernel
theorem eX23_plainType_0 : decode cX23_plainType 0 = .ok (.aload_n 0, 1) := by decide +kernel
theorem eX23_plainType_1 : decode cX23_plainType 1 = .ok (.iload_n 1, 1) := by decide +kernel
theorem eX23_plainType_2 : decode cX23_plainType 2 = .ok (.iconst 0, 1) := by decide +kernel
theorem eX23_plainType_3 : decode cX23_plainType 3 = .ok (.aconst_null, 1) := by decide +kernel
theorem eX23_plainType_4 : decode cX23_plainType 4 = .ok (.invokevirtual 397, 3) := by decide +kernel
theorem eX23_plainType_7 : decode cX23_plainType 7 = .ok (.areturn, 1) := by decide +kernel
theorem eX23_refers_0 : decode cX23_refers 0 = .ok (.aload_n 0, 1) := by decide +kernel
theorem eX23_refers_1 : decode cX23_refers 1 = .ok (.getfield 386, 3) := by decide +kernel
theorem eX23_refers_4 : decode cX23_refers 4 = .ok (.bipush 6, 2) := by decide +kernel
theorem eX23_refers_6 : decode cX23_refers 6 = .ok (.if_icmp .eq 12, 3) := by decide +kernel
theorem eX23_refers_9 : decode cX23_refers 9 = .ok (.aload_n 0, 1) := by decide +kernel
theorem eX23_refers_10 : decode cX23_refers 10 = .ok (.getfield 386, 3) := by decide +kernel
theorem eX23_refers_13 : decode cX23_refers 13 = .ok (.bipush 7, 2) := by decide +kernel
theorem eX23_refers_15 : decode cX23_refers 15 = .ok (.if_icmp .ne 7, 3) := by decide +kernel
theorem eX23_refers_18 : decode cX23_refers 18 = .ok (.iconst 1, 1) := by decide +kernel
theorem eX23_refers_19 : decode cX23_refers 19 = .ok (.goto 4, 3) := by decide +kernel
theorem eX23_refers_22 : decode cX23_refers 22 = .ok (.iconst 0, 1) := by decide +kernel
theorem eX23_refers_23 : decode cX23_refers 23 = .ok (.ireturn, 1) := by decide +kernel
theorem eX23_copied_0 : decode cX23_copied 0 = .ok (.aload_n 0, 1) := by decide +kernel
theorem eX23_copied_1 : decode cX23_copied 1 = .ok (.getfield 386, 3) := by decide +kernel
theorem eX23_copied_4 : decode cX23_copied 4 = .ok (.ifCond .eq 20, 3) := by decide +kernel
theorem eX23_copied_7 : decode cX23_copied 7 = .ok (.aload_n 0, 1) := by decide +kernel
theorem eX23_copied_8 : decode cX23_copied 8 = .ok (.getfield 386, 3) := by decide +kernel
theorem eX23_copied_11 : decode cX23_copied 11 = .ok (.iconst 1, 1) := by decide +kernel
theorem eX23_copied_12 : decode cX23_copied 12 = .ok (.if_icmp .eq 12, 3) := by decide +kernel
theorem eX23_copied_15 : decode cX23_copied 15 = .ok (.aload_n 0, 1) := by decide +kernel
theorem eX23_copied_16 : decode cX23_copied 16 = .ok (.getfield 386, 3) := by decide +kernel
theorem eX23_copied_19 : decode cX23_copied 19 = .ok (.bipush 6, 2) := by decide +kernel
theorem eX23_copied_21 : decode cX23_copied 21 = .ok (.if_icmp .ne 7, 3) := by decide +kernel
theorem eX23_copied_24 : decode cX23_copied 24 = .ok (.iconst 1, 1) := by decide +kernel
theorem eX23_copied_25 : decode cX23_copied 25 = .ok (.goto 4, 3) := by decide +kernel
theorem eX23_copied_28 : decode cX23_copied 28 = .ok (.iconst 0, 1) := by decide +kernel
theorem eX23_copied_29 : decode cX23_copied 29 = .ok (.ireturn, 1) := by decide +kernel
theorem eX23_itemNamed_0 : decode cX23_itemNamed 0 = .ok (.iconst 0, 1) := by decide +kernel
theorem eX23_itemNamed_1 : decode cX23_itemNamed 1 = .ok (.istore_n 2, 1) := by decide +kernel
theorem eX23_itemNamed_2 : decode cX23_itemNamed 2 = .ok (.iload_n 2, 1) := by decide +kernel
theorem eX23_itemNamed_3 : decode cX23_itemNamed 3 = .ok (.aload_n 0, 1) := by decide +kernel
theorem eX23_itemNamed_4 : decode cX23_itemNamed 4 = .ok (.getfield 221, 3) := by decide +kernel
theorem eX23_itemNamed_7 : decode cX23_itemNamed 7 = .ok (.if_icmp .ge 28, 3) := by decide +kernel
theorem eX23_itemNamed_10 : decode cX23_itemNamed 10 = .ok (.aload_n 0, 1) := by decide +kernel
theorem eX23_itemNamed_11 : decode cX23_itemNamed 11 = .ok (.aload_n 0, 1) := by decide +kernel
theorem eX23_itemNamed_12 : decode cX23_itemNamed 12 = .ok (.getfield 232, 3) := by decide +kernel
theorem eX23_itemNamed_15 : decode cX23_itemNamed 15 = .ok (.iload_n 2, 1) := by decide +kernel
theorem eX23_itemNamed_16 : decode cX23_itemNamed 16 = .ok (.aaload, 1) := by decide +kernel
theorem eX23_itemNamed_17 : decode cX23_itemNamed 17 = .ok (.getfield 176, 3) := by decide +kernel
theorem eX23_itemNamed_20 : decode cX23_itemNamed 20 = .ok (.iload_n 1, 1) := by decide +kernel
theorem eX23_itemNamed_21 : decode cX23_itemNamed 21 = .ok (.invokevirtual 401, 3) := by decide +kernel
theorem eX23_itemNamed_24 : decode cX23_itemNamed 24 = .ok (.ifCond .eq 5, 3) := by decide +kernel
theorem eX23_itemNamed_27 : decode cX23_itemNamed 27 = .ok (.iload_n 2, 1) := by decide +kernel
theorem eX23_itemNamed_28 : decode cX23_itemNamed 28 = .ok (.ireturn, 1) := by decide +kernel
theorem eX23_itemNamed_29 : decode cX23_itemNamed 29 = .ok (.iinc 2 1, 3) := by decide +kernel
theorem eX23_itemNamed_32 : decode cX23_itemNamed 32 = .ok (.goto (-30), 3) := by decide +kernel
theorem eX23_itemNamed_35 : decode cX23_itemNamed 35 = .ok (.iconst (-1), 1) := by decide +kernel
theorem eX23_itemNamed_36 : decode cX23_itemNamed 36 = .ok (.ireturn, 1) := by decide +kernel
theorem eX23_resolve_0 : decode cX23_resolve 0 = .ok (.aload_n 0, 1) := by decide +kernel
theorem eX23_resolve_1 : decode cX23_resolve 1 = .ok (.iconst 0, 1) := by decide +kernel
theorem eX23_resolve_2 : decode cX23_resolve 2 = .ok (.invokevirtual 405, 3) := by decide +kernel
theorem eX23_resolve_5 : decode cX23_resolve 5 = .ok (.astore_n 3, 1) := by decide +kernel
theorem eX23_resolve_6 : decode cX23_resolve 6 = .ok (.aload_n 0, 1) := by decide +kernel
theorem eX23_resolve_7 : decode cX23_resolve 7 = .ok (.invokevirtual 89, 3) := by decide +kernel
theorem eX23_resolve_10 : decode cX23_resolve 10 = .ok (.ifCond .ne 5, 3) := by decide +kernel
theorem eX23_resolve_13 : decode cX23_resolve 13 = .ok (.aload_n 3, 1) := by decide +kernel
theorem eX23_resolve_14 : decode cX23_resolve 14 = .ok (.areturn, 1) := by decide +kernel
theorem eX23_resolve_15 : decode cX23_resolve 15 = .ok (.aload_n 1, 1) := by decide +kernel
theorem eX23_resolve_16 : decode cX23_resolve 16 = .ok (.getfield 116, 3) := by decide +kernel
theorem eX23_resolve_19 : decode cX23_resolve 19 = .ok (.bipush 26, 2) := by decide +kernel
theorem eX23_resolve_21 : decode cX23_resolve 21 = .ok (.if_icmp .eq 21, 3) := by decide +kernel
theorem eX23_resolve_24 : decode cX23_resolve 24 = .ok (.aload_n 1, 1) := by decide +kernel
theorem eX23_resolve_25 : decode cX23_resolve 25 = .ok (.getfield 116, 3) := by decide +kernel
theorem eX23_resolve_28 : decode cX23_resolve 28 = .ok (.bipush 27, 2) := by decide +kernel
theorem eX23_resolve_30 : decode cX23_resolve 30 = .ok (.if_icmp .eq 12, 3) := by decide +kernel
theorem eX23_resolve_33 : decode cX23_resolve 33 = .ok (.aload_n 1, 1) := by decide +kernel
theorem eX23_resolve_34 : decode cX23_resolve 34 = .ok (.getfield 116, 3) := by decide +kernel
theorem eX23_resolve_37 : decode cX23_resolve 37 = .ok (.bipush 25, 2) := by decide +kernel
theorem eX23_resolve_39 : decode cX23_resolve 39 = .ok (.if_icmp .ne 35, 3) := by decide +kernel
theorem eX23_resolve_42 : decode cX23_resolve 42 = .ok (.aload_n 0, 1) := by decide +kernel
theorem eX23_resolve_43 : decode cX23_resolve 43 = .ok (.aload_n 1, 1) := by decide +kernel
theorem eX23_resolve_44 : decode cX23_resolve 44 = .ok (.getfield 116, 3) := by decide +kernel
theorem eX23_resolve_47 : decode cX23_resolve 47 = .ok (.bipush 26, 2) := by decide +kernel
theorem eX23_resolve_49 : decode cX23_resolve 49 = .ok (.if_icmp .ne 7, 3) := by decide +kernel
theorem eX23_resolve_52 : decode cX23_resolve 52 = .ok (.iconst 0, 1) := by decide +kernel
theorem eX23_resolve_53 : decode cX23_resolve 53 = .ok (.goto 17, 3) := by decide +kernel
theorem eX23_resolve_56 : decode cX23_resolve 56 = .ok (.aload_n 1, 1) := by decide +kernel
theorem eX23_resolve_57 : decode cX23_resolve 57 = .ok (.getfield 116, 3) := by decide +kernel
theorem eX23_resolve_60 : decode cX23_resolve 60 = .ok (.bipush 27, 2) := by decide +kernel
theorem eX23_resolve_62 : decode cX23_resolve 62 = .ok (.if_icmp .ne 7, 3) := by decide +kernel
theorem eX23_resolve_65 : decode cX23_resolve 65 = .ok (.iconst 1, 1) := by decide +kernel
theorem eX23_resolve_66 : decode cX23_resolve 66 = .ok (.goto 4, 3) := by decide +kernel
theorem eX23_resolve_69 : decode cX23_resolve 69 = .ok (.iconst 2, 1) := by decide +kernel
theorem eX23_resolve_70 : decode cX23_resolve 70 = .ok (.invokevirtual 405, 3) := by decide +kernel
theorem eX23_resolve_73 : decode cX23_resolve 73 = .ok (.areturn, 1) := by decide +kernel
theorem eX23_resolve_74 : decode cX23_resolve 74 = .ok (.aload_n 1, 1) := by decide +kernel
theorem eX23_resolve_75 : decode cX23_resolve 75 = .ok (.getfield 116, 3) := by decide +kernel
theorem eX23_resolve_78 : decode cX23_resolve 78 = .ok (.bipush 23, 2) := by decide +kernel
theorem eX23_resolve_80 : decode cX23_resolve 80 = .ok (.if_icmp .ne 19, 3) := by decide +kernel
theorem eX23_resolve_83 : decode cX23_resolve 83 = .ok (.aload_n 0, 1) := by decide +kernel
theorem eX23_resolve_84 : decode cX23_resolve 84 = .ok (.iconst 5, 1) := by decide +kernel
theorem eX23_resolve_85 : decode cX23_resolve 85 = .ok (.iconst 0, 1) := by decide +kernel
theorem eX23_resolve_86 : decode cX23_resolve 86 = .ok (.aload_n 0, 1) := by decide +kernel
theorem eX23_resolve_87 : decode cX23_resolve 87 = .ok (.aload_n 1, 1) := by decide +kernel
theorem eX23_resolve_88 : decode cX23_resolve 88 = .ok (.getfield 135, 3) := by decide +kernel
theorem eX23_resolve_91 : decode cX23_resolve 91 = .ok (.iconst 0, 1) := by decide +kernel
theorem eX23_resolve_92 : decode cX23_resolve 92 = .ok (.invokevirtual 409, 3) := by decide +kernel
theorem eX23_resolve_95 : decode cX23_resolve 95 = .ok (.invokevirtual 397, 3) := by decide +kernel
theorem eX23_resolve_98 : decode cX23_resolve 98 = .ok (.areturn, 1) := by decide +kernel
theorem eX23_resolve_99 : decode cX23_resolve 99 = .ok (.aload_n 1, 1) := by decide +kernel
theorem eX23_resolve_100 : decode cX23_resolve 100 = .ok (.getfield 116, 3) := by decide +kernel
theorem eX23_resolve_103 : decode cX23_resolve 103 = .ok (.bipush 55, 2) := by decide +kernel
theorem eX23_resolve_105 : decode cX23_resolve 105 = .ok (.if_icmp .ne 48, 3) := by decide +kernel
theorem eX23_resolve_108 : decode cX23_resolve 108 = .ok (.iload_n 2, 1) := by decide +kernel
theorem eX23_resolve_109 : decode cX23_resolve 109 = .ok (.ifCond .ne 14, 3) := by decide +kernel
theorem eX23_resolve_112 : decode cX23_resolve 112 = .ok (.aload_n 0, 1) := by decide +kernel
theorem eX23_resolve_113 : decode cX23_resolve 113 = .ok (.iconst 4, 1) := by decide +kernel
theorem eX23_resolve_114 : decode cX23_resolve 114 = .ok (.aload_n 1, 1) := by decide +kernel
theorem eX23_resolve_115 : decode cX23_resolve 115 = .ok (.getfield 113, 3) := by decide +kernel
theorem eX23_resolve_118 : decode cX23_resolve 118 = .ok (.invokevirtual 96, 3) := by decide +kernel
theorem eX23_resolve_121 : decode cX23_resolve 121 = .ok (.aload_n 3, 1) := by decide +kernel
theorem eX23_resolve_122 : decode cX23_resolve 122 = .ok (.areturn, 1) := by decide +kernel
theorem eX23_resolve_123 : decode cX23_resolve 123 = .ok (.aload_n 0, 1) := by decide +kernel
theorem eX23_resolve_124 : decode cX23_resolve 124 = .ok (.aload_n 1, 1) := by decide +kernel
theorem eX23_resolve_125 : decode cX23_resolve 125 = .ok (.getfield 128, 3) := by decide +kernel
theorem eX23_resolve_128 : decode cX23_resolve 128 = .ok (.iconst 1, 1) := by decide +kernel
theorem eX23_resolve_129 : decode cX23_resolve 129 = .ok (.if_icmp .ne 8, 3) := by decide +kernel
theorem eX23_resolve_132 : decode cX23_resolve 132 = .ok (.bipush 7, 2) := by decide +kernel
theorem eX23_resolve_134 : decode cX23_resolve 134 = .ok (.goto 5, 3) := by decide +kernel
theorem eX23_resolve_137 : decode cX23_resolve 137 = .ok (.bipush 6, 2) := by decide +kernel
theorem eX23_resolve_139 : decode cX23_resolve 139 = .ok (.iconst 0, 1) := by decide +kernel
theorem eX23_resolve_140 : decode cX23_resolve 140 = .ok (.aload_n 0, 1) := by decide +kernel
theorem eX23_resolve_141 : decode cX23_resolve 141 = .ok (.aload_n 1, 1) := by decide +kernel
theorem eX23_resolve_142 : decode cX23_resolve 142 = .ok (.getfield 135, 3) := by decide +kernel
theorem eX23_resolve_145 : decode cX23_resolve 145 = .ok (.iconst 0, 1) := by decide +kernel
theorem eX23_resolve_146 : decode cX23_resolve 146 = .ok (.invokevirtual 409, 3) := by decide +kernel
theorem eX23_resolve_149 : decode cX23_resolve 149 = .ok (.invokevirtual 397, 3) := by decide +kernel
theorem eX23_resolve_152 : decode cX23_resolve 152 = .ok (.areturn, 1) := by decide +kernel
theorem eX23_resolve_153 : decode cX23_resolve 153 = .ok (.aload_n 0, 1) := by decide +kernel
theorem eX23_resolve_154 : decode cX23_resolve 154 = .ok (.aload_n 1, 1) := by decide +kernel
theorem eX23_resolve_155 : decode cX23_resolve 155 = .ok (.getfield 113, 3) := by decide +kernel
theorem eX23_resolve_158 : decode cX23_resolve 158 = .ok (.invokevirtual 413, 3) := by decide +kernel
theorem eX23_resolve_161 : decode cX23_resolve 161 = .ok (.istore 4, 2) := by decide +kernel
theorem eX23_resolve_163 : decode cX23_resolve 163 = .ok (.iload 4, 2) := by decide +kernel
theorem eX23_resolve_165 : decode cX23_resolve 165 = .ok (.ifCond .lt 18, 3) := by decide +kernel
theorem eX23_resolve_168 : decode cX23_resolve 168 = .ok (.aload_n 0, 1) := by decide +kernel
theorem eX23_resolve_169 : decode cX23_resolve 169 = .ok (.getfield 232, 3) := by decide +kernel
theorem eX23_resolve_172 : decode cX23_resolve 172 = .ok (.iload 4, 2) := by decide +kernel
theorem eX23_resolve_174 : decode cX23_resolve 174 = .ok (.aaload, 1) := by decide +kernel
theorem eX23_resolve_175 : decode cX23_resolve 175 = .ok (.getfield 174, 3) := by decide +kernel
theorem eX23_resolve_178 : decode cX23_resolve 178 = .ok (.bipush 12, 2) := by decide +kernel
theorem eX23_resolve_180 : decode cX23_resolve 180 = .ok (.if_icmp .ne 14, 3) := by decide +kernel
theorem eX23_resolve_183 : decode cX23_resolve 183 = .ok (.aload_n 0, 1) := by decide +kernel
theorem eX23_resolve_184 : decode cX23_resolve 184 = .ok (.iconst 3, 1) := by decide +kernel
theorem eX23_resolve_185 : decode cX23_resolve 185 = .ok (.aload_n 1, 1) := by decide +kernel
theorem eX23_resolve_186 : decode cX23_resolve 186 = .ok (.getfield 113, 3) := by decide +kernel
theorem eX23_resolve_189 : decode cX23_resolve 189 = .ok (.invokevirtual 96, 3) := by decide +kernel
theorem eX23_resolve_192 : decode cX23_resolve 192 = .ok (.aload_n 3, 1) := by decide +kernel
theorem eX23_resolve_193 : decode cX23_resolve 193 = .ok (.areturn, 1) := by decide +kernel
theorem eX23_resolve_194 : decode cX23_resolve 194 = .ok (.aload_n 0, 1) := by decide +kernel
theorem eX23_resolve_195 : decode cX23_resolve 195 = .ok (.aload_n 0, 1) := by decide +kernel
theorem eX23_resolve_196 : decode cX23_resolve 196 = .ok (.getfield 232, 3) := by decide +kernel
theorem eX23_resolve_199 : decode cX23_resolve 199 = .ok (.iload 4, 2) := by decide +kernel
theorem eX23_resolve_201 : decode cX23_resolve 201 = .ok (.aaload, 1) := by decide +kernel
theorem eX23_resolve_202 : decode cX23_resolve 202 = .ok (.getfield 174, 3) := by decide +kernel
theorem eX23_resolve_205 : decode cX23_resolve 205 = .ok (.bipush 10, 2) := by decide +kernel
theorem eX23_resolve_207 : decode cX23_resolve 207 = .ok (.if_icmp .ne 7, 3) := by decide +kernel
theorem eX23_resolve_210 : decode cX23_resolve 210 = .ok (.iconst 3, 1) := by decide +kernel
theorem eX23_resolve_211 : decode cX23_resolve 211 = .ok (.goto 4, 3) := by decide +kernel
theorem eX23_resolve_214 : decode cX23_resolve 214 = .ok (.iconst 4, 1) := by decide +kernel
theorem eX23_resolve_215 : decode cX23_resolve 215 = .ok (.iload 4, 2) := by decide +kernel
theorem eX23_resolve_217 : decode cX23_resolve 217 = .ok (.aconst_null, 1) := by decide +kernel
theorem eX23_resolve_218 : decode cX23_resolve 218 = .ok (.invokevirtual 397, 3) := by decide +kernel
theorem eX23_resolve_221 : decode cX23_resolve 221 = .ok (.areturn, 1) := by decide +kernel
theorem eX23_noLife_0 : decode cX23_noLife 0 = .ok (.aload_n 0, 1) := by decide +kernel
theorem eX23_noLife_1 : decode cX23_noLife 1 = .ok (.invokevirtual 89, 3) := by decide +kernel
theorem eX23_noLife_4 : decode cX23_noLife 4 = .ok (.ifCond .eq 28, 3) := by decide +kernel
theorem eX23_noLife_7 : decode cX23_noLife 7 = .ok (.aload_n 1, 1) := by decide +kernel
theorem eX23_noLife_8 : decode cX23_noLife 8 = .ok (.getfield 116, 3) := by decide +kernel
theorem eX23_noLife_11 : decode cX23_noLife 11 = .ok (.bipush 55, 2) := by decide +kernel
theorem eX23_noLife_13 : decode cX23_noLife 13 = .ok (.if_icmp .ne 19, 3) := by decide +kernel
theorem eX23_noLife_16 : decode cX23_noLife 16 = .ok (.aload_n 1, 1) := by decide +kernel
theorem eX23_noLife_17 : decode cX23_noLife 17 = .ok (.getfield 122, 3) := by decide +kernel
theorem eX23_noLife_20 : decode cX23_noLife 20 = .ok (.ifCond .lt 12, 3) := by decide +kernel
theorem eX23_noLife_23 : decode cX23_noLife 23 = .ok (.aload_n 0, 1) := by decide +kernel
theorem eX23_noLife_24 : decode cX23_noLife 24 = .ok (.iconst 4, 1) := by decide +kernel
theorem eX23_noLife_25 : decode cX23_noLife 25 = .ok (.aload_n 1, 1) := by decide +kernel
theorem eX23_noLife_26 : decode cX23_noLife 26 = .ok (.getfield 122, 3) := by decide +kernel
theorem eX23_noLife_29 : decode cX23_noLife 29 = .ok (.invokevirtual 96, 3) := by decide +kernel
theorem eX23_noLife_32 : decode cX23_noLife 32 = .ok (.return_, 1) := by decide +kernel
theorem eX23_lifeIn_0 : decode cX23_lifeIn 0 = .ok (.aload_n 0, 1) := by decide +kernel
theorem eX23_lifeIn_1 : decode cX23_lifeIn 1 = .ok (.invokevirtual 89, 3) := by decide +kernel
theorem eX23_lifeIn_4 : decode cX23_lifeIn 4 = .ok (.ifCond .eq 19, 3) := by decide +kernel
theorem eX23_lifeIn_7 : decode cX23_lifeIn 7 = .ok (.aload_n 2, 1) := by decide +kernel
theorem eX23_lifeIn_8 : decode cX23_lifeIn 8 = .ok (.getfield 116, 3) := by decide +kernel
theorem eX23_lifeIn_11 : decode cX23_lifeIn 11 = .ok (.bipush 55, 2) := by decide +kernel
theorem eX23_lifeIn_13 : decode cX23_lifeIn 13 = .ok (.if_icmp .ne 10, 3) := by decide +kernel
theorem eX23_lifeIn_16 : decode cX23_lifeIn 16 = .ok (.aload_n 2, 1) := by decide +kernel
theorem eX23_lifeIn_17 : decode cX23_lifeIn 17 = .ok (.getfield 122, 3) := by decide +kernel
theorem eX23_lifeIn_20 : decode cX23_lifeIn 20 = .ok (.ifCond .ge 5, 3) := by decide +kernel
theorem eX23_lifeIn_23 : decode cX23_lifeIn 23 = .ok (.iconst (-1), 1) := by decide +kernel
theorem eX23_lifeIn_24 : decode cX23_lifeIn 24 = .ok (.ireturn, 1) := by decide +kernel
theorem eX23_lifeIn_25 : decode cX23_lifeIn 25 = .ok (.iconst 0, 1) := by decide +kernel
theorem eX23_lifeIn_26 : decode cX23_lifeIn 26 = .ok (.istore_n 3, 1) := by decide +kernel
theorem eX23_lifeIn_27 : decode cX23_lifeIn 27 = .ok (.iload_n 3, 1) := by decide +kernel
theorem eX23_lifeIn_28 : decode cX23_lifeIn 28 = .ok (.aload_n 1, 1) := by decide +kernel
theorem eX23_lifeIn_29 : decode cX23_lifeIn 29 = .ok (.getfield 184, 3) := by decide +kernel
theorem eX23_lifeIn_32 : decode cX23_lifeIn 32 = .ok (.if_icmp .ge 28, 3) := by decide +kernel
theorem eX23_lifeIn_35 : decode cX23_lifeIn 35 = .ok (.aload_n 0, 1) := by decide +kernel
theorem eX23_lifeIn_36 : decode cX23_lifeIn 36 = .ok (.aload_n 1, 1) := by decide +kernel
theorem eX23_lifeIn_37 : decode cX23_lifeIn 37 = .ok (.getfield 187, 3) := by decide +kernel
theorem eX23_lifeIn_40 : decode cX23_lifeIn 40 = .ok (.iload_n 3, 1) := by decide +kernel
theorem eX23_lifeIn_41 : decode cX23_lifeIn 41 = .ok (.iaload, 1) := by decide +kernel
theorem eX23_lifeIn_42 : decode cX23_lifeIn 42 = .ok (.aload_n 2, 1) := by decide +kernel
theorem eX23_lifeIn_43 : decode cX23_lifeIn 43 = .ok (.getfield 122, 3) := by decide +kernel
theorem eX23_lifeIn_46 : decode cX23_lifeIn 46 = .ok (.invokevirtual 401, 3) := by decide +kernel
theorem eX23_lifeIn_49 : decode cX23_lifeIn 49 = .ok (.ifCond .eq 5, 3) := by decide +kernel
theorem eX23_lifeIn_52 : decode cX23_lifeIn 52 = .ok (.iload_n 3, 1) := by decide +kernel
theorem eX23_lifeIn_53 : decode cX23_lifeIn 53 = .ok (.ireturn, 1) := by decide +kernel
theorem eX23_lifeIn_54 : decode cX23_lifeIn 54 = .ok (.iinc 3 1, 3) := by decide +kernel
theorem eX23_lifeIn_57 : decode cX23_lifeIn 57 = .ok (.goto (-30), 3) := by decide +kernel
theorem eX23_lifeIn_60 : decode cX23_lifeIn 60 = .ok (.aload_n 0, 1) := by decide +kernel
theorem eX23_lifeIn_61 : decode cX23_lifeIn 61 = .ok (.iconst 3, 1) := by decide +kernel
theorem eX23_lifeIn_62 : decode cX23_lifeIn 62 = .ok (.aload_n 2, 1) := by decide +kernel
theorem eX23_lifeIn_63 : decode cX23_lifeIn 63 = .ok (.getfield 122, 3) := by decide +kernel
theorem eX23_lifeIn_66 : decode cX23_lifeIn 66 = .ok (.invokevirtual 96, 3) := by decide +kernel
theorem eX23_lifeIn_69 : decode cX23_lifeIn 69 = .ok (.iconst (-1), 1) := by decide +kernel
theorem eX23_lifeIn_70 : decode cX23_lifeIn 70 = .ok (.ireturn, 1) := by decide +kernel
theorem eX23_lives_0 : decode cX23_lives 0 = .ok (.iconst 0, 1) := by decide +kernel
theorem eX23_lives_1 : decode cX23_lives 1 = .ok (.istore_n 2, 1) := by decide +kernel
theorem eX23_lives_2 : decode cX23_lives 2 = .ok (.iload_n 2, 1) := by decide +kernel
theorem eX23_lives_3 : decode cX23_lives 3 = .ok (.aload_n 1, 1) := by decide +kernel
theorem eX23_lives_4 : decode cX23_lives 4 = .ok (.getfield 184, 3) := by decide +kernel
theorem eX23_lives_7 : decode cX23_lives 7 = .ok (.if_icmp .ge 59, 3) := by decide +kernel
theorem eX23_lives_10 : decode cX23_lives 10 = .ok (.aload_n 0, 1) := by decide +kernel
theorem eX23_lives_11 : decode cX23_lives 11 = .ok (.invokevirtual 89, 3) := by decide +kernel
theorem eX23_lives_14 : decode cX23_lives 14 = .ok (.ifCond .eq 52, 3) := by decide +kernel
theorem eX23_lives_17 : decode cX23_lives 17 = .ok (.iconst 0, 1) := by decide +kernel
theorem eX23_lives_18 : decode cX23_lives 18 = .ok (.istore_n 3, 1) := by decide +kernel
theorem eX23_lives_19 : decode cX23_lives 19 = .ok (.iload_n 3, 1) := by decide +kernel
theorem eX23_lives_20 : decode cX23_lives 20 = .ok (.iload_n 2, 1) := by decide +kernel
theorem eX23_lives_21 : decode cX23_lives 21 = .ok (.if_icmp .ge 39, 3) := by decide +kernel
theorem eX23_lives_24 : decode cX23_lives 24 = .ok (.aload_n 0, 1) := by decide +kernel
theorem eX23_lives_25 : decode cX23_lives 25 = .ok (.aload_n 1, 1) := by decide +kernel
theorem eX23_lives_26 : decode cX23_lives 26 = .ok (.getfield 187, 3) := by decide +kernel
theorem eX23_lives_29 : decode cX23_lives 29 = .ok (.iload_n 3, 1) := by decide +kernel
theorem eX23_lives_30 : decode cX23_lives 30 = .ok (.iaload, 1) := by decide +kernel
theorem eX23_lives_31 : decode cX23_lives 31 = .ok (.aload_n 1, 1) := by decide +kernel
theorem eX23_lives_32 : decode cX23_lives 32 = .ok (.getfield 187, 3) := by decide +kernel
theorem eX23_lives_35 : decode cX23_lives 35 = .ok (.iload_n 2, 1) := by decide +kernel
theorem eX23_lives_36 : decode cX23_lives 36 = .ok (.iaload, 1) := by decide +kernel
theorem eX23_lives_37 : decode cX23_lives 37 = .ok (.invokevirtual 401, 3) := by decide +kernel
theorem eX23_lives_40 : decode cX23_lives 40 = .ok (.ifCond .eq 14, 3) := by decide +kernel
theorem eX23_lives_43 : decode cX23_lives 43 = .ok (.aload_n 0, 1) := by decide +kernel
theorem eX23_lives_44 : decode cX23_lives 44 = .ok (.iconst 3, 1) := by decide +kernel
theorem eX23_lives_45 : decode cX23_lives 45 = .ok (.aload_n 1, 1) := by decide +kernel
theorem eX23_lives_46 : decode cX23_lives 46 = .ok (.getfield 187, 3) := by decide +kernel
theorem eX23_lives_49 : decode cX23_lives 49 = .ok (.iload_n 2, 1) := by decide +kernel
theorem eX23_lives_50 : decode cX23_lives 50 = .ok (.iaload, 1) := by decide +kernel
theorem eX23_lives_51 : decode cX23_lives 51 = .ok (.invokevirtual 96, 3) := by decide +kernel
theorem eX23_lives_54 : decode cX23_lives 54 = .ok (.iinc 3 1, 3) := by decide +kernel
theorem eX23_lives_57 : decode cX23_lives 57 = .ok (.goto (-38), 3) := by decide +kernel
theorem eX23_lives_60 : decode cX23_lives 60 = .ok (.iinc 2 1, 3) := by decide +kernel
theorem eX23_lives_63 : decode cX23_lives 63 = .ok (.goto (-61), 3) := by decide +kernel
theorem eX23_lives_66 : decode cX23_lives 66 = .ok (.return_, 1) := by decide +kernel
theorem eX23_itemNames_0 : decode cX23_itemNames 0 = .ok (.iconst 0, 1) := by decide +kernel
theorem eX23_itemNames_1 : decode cX23_itemNames 1 = .ok (.istore_n 1, 1) := by decide +kernel
theorem eX23_itemNames_2 : decode cX23_itemNames 2 = .ok (.iload_n 1, 1) := by decide +kernel
theorem eX23_itemNames_3 : decode cX23_itemNames 3 = .ok (.aload_n 0, 1) := by decide +kernel
theorem eX23_itemNames_4 : decode cX23_itemNames 4 = .ok (.getfield 221, 3) := by decide +kernel
theorem eX23_itemNames_7 : decode cX23_itemNames 7 = .ok (.if_icmp .ge 61, 3) := by decide +kernel
theorem eX23_itemNames_10 : decode cX23_itemNames 10 = .ok (.iconst 0, 1) := by decide +kernel
theorem eX23_itemNames_11 : decode cX23_itemNames 11 = .ok (.istore_n 2, 1) := by decide +kernel
theorem eX23_itemNames_12 : decode cX23_itemNames 12 = .ok (.iload_n 2, 1) := by decide +kernel
theorem eX23_itemNames_13 : decode cX23_itemNames 13 = .ok (.iload_n 1, 1) := by decide +kernel
theorem eX23_itemNames_14 : decode cX23_itemNames 14 = .ok (.if_icmp .ge 48, 3) := by decide +kernel
theorem eX23_itemNames_17 : decode cX23_itemNames 17 = .ok (.aload_n 0, 1) := by decide +kernel
theorem eX23_itemNames_18 : decode cX23_itemNames 18 = .ok (.aload_n 0, 1) := by decide +kernel
theorem eX23_itemNames_19 : decode cX23_itemNames 19 = .ok (.getfield 232, 3) := by decide +kernel
theorem eX23_itemNames_22 : decode cX23_itemNames 22 = .ok (.iload_n 1, 1) := by decide +kernel
theorem eX23_itemNames_23 : decode cX23_itemNames 23 = .ok (.aaload, 1) := by decide +kernel
theorem eX23_itemNames_24 : decode cX23_itemNames 24 = .ok (.getfield 176, 3) := by decide +kernel
theorem eX23_itemNames_27 : decode cX23_itemNames 27 = .ok (.aload_n 0, 1) := by decide +kernel
theorem eX23_itemNames_28 : decode cX23_itemNames 28 = .ok (.getfield 232, 3) := by decide +kernel
theorem eX23_itemNames_31 : decode cX23_itemNames 31 = .ok (.iload_n 2, 1) := by decide +kernel
theorem eX23_itemNames_32 : decode cX23_itemNames 32 = .ok (.aaload, 1) := by decide +kernel
theorem eX23_itemNames_33 : decode cX23_itemNames 33 = .ok (.getfield 176, 3) := by decide +kernel
theorem eX23_itemNames_36 : decode cX23_itemNames 36 = .ok (.invokevirtual 401, 3) := by decide +kernel
theorem eX23_itemNames_39 : decode cX23_itemNames 39 = .ok (.ifCond .eq 17, 3) := by decide +kernel
theorem eX23_itemNames_42 : decode cX23_itemNames 42 = .ok (.aload_n 0, 1) := by decide +kernel
theorem eX23_itemNames_43 : decode cX23_itemNames 43 = .ok (.iconst 3, 1) := by decide +kernel
theorem eX23_itemNames_44 : decode cX23_itemNames 44 = .ok (.aload_n 0, 1) := by decide +kernel
theorem eX23_itemNames_45 : decode cX23_itemNames 45 = .ok (.getfield 232, 3) := by decide +kernel
theorem eX23_itemNames_48 : decode cX23_itemNames 48 = .ok (.iload_n 1, 1) := by decide +kernel
theorem eX23_itemNames_49 : decode cX23_itemNames 49 = .ok (.aaload, 1) := by decide +kernel
theorem eX23_itemNames_50 : decode cX23_itemNames 50 = .ok (.getfield 176, 3) := by decide +kernel
theorem eX23_itemNames_53 : decode cX23_itemNames 53 = .ok (.invokevirtual 96, 3) := by decide +kernel
theorem eX23_itemNames_56 : decode cX23_itemNames 56 = .ok (.iinc 2 1, 3) := by decide +kernel
theorem eX23_itemNames_59 : decode cX23_itemNames 59 = .ok (.goto (-47), 3) := by decide +kernel
theorem eX23_itemNames_62 : decode cX23_itemNames 62 = .ok (.iinc 1 1, 3) := by decide +kernel
theorem eX23_itemNames_65 : decode cX23_itemNames 65 = .ok (.goto (-63), 3) := by decide +kernel
theorem eX23_itemNames_68 : decode cX23_itemNames 68 = .ok (.return_, 1) := by decide +kernel
theorem eX23_itemTypes_0 : decode cX23_itemTypes 0 = .ok (.aload_n 1, 1) := by decide +kernel
theorem eX23_itemTypes_1 : decode cX23_itemTypes 1 = .ok (.getfield 174, 3) := by decide +kernel
theorem eX23_itemTypes_4 : decode cX23_itemTypes 4 = .ok (.bipush 12, 2) := by decide +kernel
theorem eX23_itemTypes_6 : decode cX23_itemTypes 6 = .ok (.if_icmp .ne 8, 3) := by decide +kernel
theorem eX23_itemTypes_9 : decode cX23_itemTypes 9 = .ok (.aload_n 0, 1) := by decide +kernel
theorem eX23_itemTypes_10 : decode cX23_itemTypes 10 = .ok (.aload_n 1, 1) := by decide +kernel
theorem eX23_itemTypes_11 : decode cX23_itemTypes 11 = .ok (.invokevirtual 416, 3) := by decide +kernel
theorem eX23_itemTypes_14 : decode cX23_itemTypes 14 = .ok (.iconst 0, 1) := by decide +kernel
theorem eX23_itemTypes_15 : decode cX23_itemTypes 15 = .ok (.istore_n 2, 1) := by decide +kernel
theorem eX23_itemTypes_16 : decode cX23_itemTypes 16 = .ok (.iload_n 2, 1) := by decide +kernel
theorem eX23_itemTypes_17 : decode cX23_itemTypes 17 = .ok (.aload_n 1, 1) := by decide +kernel
theorem eX23_itemTypes_18 : decode cX23_itemTypes 18 = .ok (.getfield 139, 3) := by decide +kernel
theorem eX23_itemTypes_21 : decode cX23_itemTypes 21 = .ok (.if_icmp .ge 182, 3) := by decide +kernel
theorem eX23_itemTypes_24 : decode cX23_itemTypes 24 = .ok (.aload_n 0, 1) := by decide +kernel
theorem eX23_itemTypes_25 : decode cX23_itemTypes 25 = .ok (.invokevirtual 89, 3) := by decide +kernel
theorem eX23_itemTypes_28 : decode cX23_itemTypes 28 = .ok (.ifCond .eq 175, 3) := by decide +kernel
theorem eX23_itemTypes_31 : decode cX23_itemTypes 31 = .ok (.iconst 0, 1) := by decide +kernel
theorem eX23_itemTypes_32 : decode cX23_itemTypes 32 = .ok (.istore_n 3, 1) := by decide +kernel
theorem eX23_itemTypes_33 : decode cX23_itemTypes 33 = .ok (.iload_n 3, 1) := by decide +kernel
theorem eX23_itemTypes_34 : decode cX23_itemTypes 34 = .ok (.iload_n 2, 1) := by decide +kernel
theorem eX23_itemTypes_35 : decode cX23_itemTypes 35 = .ok (.if_icmp .ge 39, 3) := by decide +kernel
theorem eX23_itemTypes_38 : decode cX23_itemTypes 38 = .ok (.aload_n 0, 1) := by decide +kernel
theorem eX23_itemTypes_39 : decode cX23_itemTypes 39 = .ok (.aload_n 1, 1) := by decide +kernel
theorem eX23_itemTypes_40 : decode cX23_itemTypes 40 = .ok (.getfield 147, 3) := by decide +kernel
theorem eX23_itemTypes_43 : decode cX23_itemTypes 43 = .ok (.iload_n 3, 1) := by decide +kernel
theorem eX23_itemTypes_44 : decode cX23_itemTypes 44 = .ok (.iaload, 1) := by decide +kernel
theorem eX23_itemTypes_45 : decode cX23_itemTypes 45 = .ok (.aload_n 1, 1) := by decide +kernel
theorem eX23_itemTypes_46 : decode cX23_itemTypes 46 = .ok (.getfield 147, 3) := by decide +kernel
theorem eX23_itemTypes_49 : decode cX23_itemTypes 49 = .ok (.iload_n 2, 1) := by decide +kernel
theorem eX23_itemTypes_50 : decode cX23_itemTypes 50 = .ok (.iaload, 1) := by decide +kernel
theorem eX23_itemTypes_51 : decode cX23_itemTypes 51 = .ok (.invokevirtual 401, 3) := by decide +kernel
theorem eX23_itemTypes_54 : decode cX23_itemTypes 54 = .ok (.ifCond .eq 14, 3) := by decide +kernel
theorem eX23_itemTypes_57 : decode cX23_itemTypes 57 = .ok (.aload_n 0, 1) := by decide +kernel
theorem eX23_itemTypes_58 : decode cX23_itemTypes 58 = .ok (.iconst 3, 1) := by decide +kernel
theorem eX23_itemTypes_59 : decode cX23_itemTypes 59 = .ok (.aload_n 1, 1) := by decide +kernel
theorem eX23_itemTypes_60 : decode cX23_itemTypes 60 = .ok (.getfield 147, 3) := by decide +kernel
theorem eX23_itemTypes_63 : decode cX23_itemTypes 63 = .ok (.iload_n 2, 1) := by decide +kernel
theorem eX23_itemTypes_64 : decode cX23_itemTypes 64 = .ok (.iaload, 1) := by decide +kernel
theorem eX23_itemTypes_65 : decode cX23_itemTypes 65 = .ok (.invokevirtual 96, 3) := by decide +kernel
theorem eX23_itemTypes_68 : decode cX23_itemTypes 68 = .ok (.iinc 3 1, 3) := by decide +kernel
theorem eX23_itemTypes_71 : decode cX23_itemTypes 71 = .ok (.goto (-38), 3) := by decide +kernel
theorem eX23_itemTypes_74 : decode cX23_itemTypes 74 = .ok (.aload_n 1, 1) := by decide +kernel
theorem eX23_itemTypes_75 : decode cX23_itemTypes 75 = .ok (.getfield 174, 3) := by decide +kernel
theorem eX23_itemTypes_78 : decode cX23_itemTypes 78 = .ok (.bipush 11, 2) := by decide +kernel
theorem eX23_itemTypes_80 : decode cX23_itemTypes 80 = .ok (.if_icmp .eq 62, 3) := by decide +kernel
theorem eX23_itemTypes_83 : decode cX23_itemTypes 83 = .ok (.aload_n 1, 1) := by decide +kernel
theorem eX23_itemTypes_84 : decode cX23_itemTypes 84 = .ok (.getfield 175, 3) := by decide +kernel
theorem eX23_itemTypes_87 : decode cX23_itemTypes 87 = .ok (.iload_n 2, 1) := by decide +kernel
theorem eX23_itemTypes_88 : decode cX23_itemTypes 88 = .ok (.aload_n 0, 1) := by decide +kernel
theorem eX23_itemTypes_89 : decode cX23_itemTypes 89 = .ok (.aload_n 1, 1) := by decide +kernel
theorem eX23_itemTypes_90 : decode cX23_itemTypes 90 = .ok (.getfield 153, 3) := by decide +kernel
theorem eX23_itemTypes_93 : decode cX23_itemTypes 93 = .ok (.iload_n 2, 1) := by decide +kernel
theorem eX23_itemTypes_94 : decode cX23_itemTypes 94 = .ok (.aaload, 1) := by decide +kernel
theorem eX23_itemTypes_95 : decode cX23_itemTypes 95 = .ok (.aload_n 1, 1) := by decide +kernel
theorem eX23_itemTypes_96 : decode cX23_itemTypes 96 = .ok (.getfield 174, 3) := by decide +kernel
theorem eX23_itemTypes_99 : decode cX23_itemTypes 99 = .ok (.bipush 12, 2) := by decide +kernel
theorem eX23_itemTypes_101 : decode cX23_itemTypes 101 = .ok (.if_icmp .ne 7, 3) := by decide +kernel
theorem eX23_itemTypes_104 : decode cX23_itemTypes 104 = .ok (.iconst 1, 1) := by decide +kernel
theorem eX23_itemTypes_105 : decode cX23_itemTypes 105 = .ok (.goto 4, 3) := by decide +kernel
theorem eX23_itemTypes_108 : decode cX23_itemTypes 108 = .ok (.iconst 0, 1) := by decide +kernel
theorem eX23_itemTypes_109 : decode cX23_itemTypes 109 = .ok (.invokevirtual 409, 3) := by decide +kernel
theorem eX23_itemTypes_112 : decode cX23_itemTypes 112 = .ok (.aastore, 1) := by decide +kernel
theorem eX23_itemTypes_113 : decode cX23_itemTypes 113 = .ok (.aload_n 1, 1) := by decide +kernel
theorem eX23_itemTypes_114 : decode cX23_itemTypes 114 = .ok (.getfield 174, 3) := by decide +kernel
theorem eX23_itemTypes_117 : decode cX23_itemTypes 117 = .ok (.bipush 12, 2) := by decide +kernel
theorem eX23_itemTypes_119 : decode cX23_itemTypes 119 = .ok (.if_icmp .ne 78, 3) := by decide +kernel
theorem eX23_itemTypes_122 : decode cX23_itemTypes 122 = .ok (.aload_n 1, 1) := by decide +kernel
theorem eX23_itemTypes_123 : decode cX23_itemTypes 123 = .ok (.getfield 198, 3) := by decide +kernel
theorem eX23_itemTypes_126 : decode cX23_itemTypes 126 = .ok (.iload_n 2, 1) := by decide +kernel
theorem eX23_itemTypes_127 : decode cX23_itemTypes 127 = .ok (.aload_n 0, 1) := by decide +kernel
theorem eX23_itemTypes_128 : decode cX23_itemTypes 128 = .ok (.aload_n 1, 1) := by decide +kernel
theorem eX23_itemTypes_129 : decode cX23_itemTypes 129 = .ok (.aload_n 1, 1) := by decide +kernel
theorem eX23_itemTypes_130 : decode cX23_itemTypes 130 = .ok (.getfield 153, 3) := by decide +kernel
theorem eX23_itemTypes_133 : decode cX23_itemTypes 133 = .ok (.iload_n 2, 1) := by decide +kernel
theorem eX23_itemTypes_134 : decode cX23_itemTypes 134 = .ok (.aaload, 1) := by decide +kernel
theorem eX23_itemTypes_135 : decode cX23_itemTypes 135 = .ok (.invokevirtual 418, 3) := by decide +kernel
theorem eX23_itemTypes_138 : decode cX23_itemTypes 138 = .ok (.iastore, 1) := by decide +kernel
theorem eX23_itemTypes_139 : decode cX23_itemTypes 139 = .ok (.goto 58, 3) := by decide +kernel
theorem eX23_itemTypes_142 : decode cX23_itemTypes 142 = .ok (.iconst 0, 1) := by decide +kernel
theorem eX23_itemTypes_143 : decode cX23_itemTypes 143 = .ok (.istore_n 3, 1) := by decide +kernel
theorem eX23_itemTypes_144 : decode cX23_itemTypes 144 = .ok (.iload_n 3, 1) := by decide +kernel
theorem eX23_itemTypes_145 : decode cX23_itemTypes 145 = .ok (.aload_n 1, 1) := by decide +kernel
theorem eX23_itemTypes_146 : decode cX23_itemTypes 146 = .ok (.getfield 159, 3) := by decide +kernel
theorem eX23_itemTypes_149 : decode cX23_itemTypes 149 = .ok (.iload_n 2, 1) := by decide +kernel
theorem eX23_itemTypes_150 : decode cX23_itemTypes 150 = .ok (.aaload, 1) := by decide +kernel
theorem eX23_itemTypes_151 : decode cX23_itemTypes 151 = .ok (.getfield 170, 3) := by decide +kernel
theorem eX23_itemTypes_154 : decode cX23_itemTypes 154 = .ok (.if_icmp .ge 43, 3) := by decide +kernel
theorem eX23_itemTypes_157 : decode cX23_itemTypes 157 = .ok (.aload_n 0, 1) := by decide +kernel
theorem eX23_itemTypes_158 : decode cX23_itemTypes 158 = .ok (.invokevirtual 89, 3) := by decide +kernel
theorem eX23_itemTypes_161 : decode cX23_itemTypes 161 = .ok (.ifCond .eq 36, 3) := by decide +kernel
theorem eX23_itemTypes_164 : decode cX23_itemTypes 164 = .ok (.aload_n 1, 1) := by decide +kernel
theorem eX23_itemTypes_165 : decode cX23_itemTypes 165 = .ok (.getfield 159, 3) := by decide +kernel
theorem eX23_itemTypes_168 : decode cX23_itemTypes 168 = .ok (.iload_n 2, 1) := by decide +kernel
theorem eX23_itemTypes_169 : decode cX23_itemTypes 169 = .ok (.aaload, 1) := by decide +kernel
theorem eX23_itemTypes_170 : decode cX23_itemTypes 170 = .ok (.getfield 166, 3) := by decide +kernel
theorem eX23_itemTypes_173 : decode cX23_itemTypes 173 = .ok (.iload_n 3, 1) := by decide +kernel
theorem eX23_itemTypes_174 : decode cX23_itemTypes 174 = .ok (.aload_n 0, 1) := by decide +kernel
theorem eX23_itemTypes_175 : decode cX23_itemTypes 175 = .ok (.aload_n 1, 1) := by decide +kernel
theorem eX23_itemTypes_176 : decode cX23_itemTypes 176 = .ok (.getfield 159, 3) := by decide +kernel
theorem eX23_itemTypes_179 : decode cX23_itemTypes 179 = .ok (.iload_n 2, 1) := by decide +kernel
theorem eX23_itemTypes_180 : decode cX23_itemTypes 180 = .ok (.aaload, 1) := by decide +kernel
theorem eX23_itemTypes_181 : decode cX23_itemTypes 181 = .ok (.getfield 163, 3) := by decide +kernel
theorem eX23_itemTypes_184 : decode cX23_itemTypes 184 = .ok (.iload_n 3, 1) := by decide +kernel
theorem eX23_itemTypes_185 : decode cX23_itemTypes 185 = .ok (.aaload, 1) := by decide +kernel
theorem eX23_itemTypes_186 : decode cX23_itemTypes 186 = .ok (.iconst 0, 1) := by decide +kernel
theorem eX23_itemTypes_187 : decode cX23_itemTypes 187 = .ok (.invokevirtual 409, 3) := by decide +kernel
theorem eX23_itemTypes_190 : decode cX23_itemTypes 190 = .ok (.aastore, 1) := by decide +kernel
theorem eX23_itemTypes_191 : decode cX23_itemTypes 191 = .ok (.iinc 3 1, 3) := by decide +kernel
theorem eX23_itemTypes_194 : decode cX23_itemTypes 194 = .ok (.goto (-50), 3) := by decide +kernel
theorem eX23_itemTypes_197 : decode cX23_itemTypes 197 = .ok (.iinc 2 1, 3) := by decide +kernel
theorem eX23_itemTypes_200 : decode cX23_itemTypes 200 = .ok (.goto (-184), 3) := by decide +kernel
theorem eX23_itemTypes_203 : decode cX23_itemTypes 203 = .ok (.aload_n 1, 1) := by decide +kernel
theorem eX23_itemTypes_204 : decode cX23_itemTypes 204 = .ok (.getfield 174, 3) := by decide +kernel
theorem eX23_itemTypes_207 : decode cX23_itemTypes 207 = .ok (.bipush 12, 2) := by decide +kernel
theorem eX23_itemTypes_209 : decode cX23_itemTypes 209 = .ok (.if_icmp .ne 10, 3) := by decide +kernel
theorem eX23_itemTypes_212 : decode cX23_itemTypes 212 = .ok (.aload_n 0, 1) := by decide +kernel
theorem eX23_itemTypes_213 : decode cX23_itemTypes 213 = .ok (.invokevirtual 89, 3) := by decide +kernel
theorem eX23_itemTypes_216 : decode cX23_itemTypes 216 = .ok (.ifCond .ne 4, 3) := by decide +kernel
theorem eX23_itemTypes_219 : decode cX23_itemTypes 219 = .ok (.return_, 1) := by decide +kernel
theorem eX23_itemTypes_220 : decode cX23_itemTypes 220 = .ok (.aload_n 1, 1) := by decide +kernel
theorem eX23_itemTypes_221 : decode cX23_itemTypes 221 = .ok (.aload_n 1, 1) := by decide +kernel
theorem eX23_itemTypes_222 : decode cX23_itemTypes 222 = .ok (.getfield 210, 3) := by decide +kernel
theorem eX23_itemTypes_225 : decode cX23_itemTypes 225 = .ok (.ifnonnull 12, 3) := by decide +kernel
theorem eX23_itemTypes_228 : decode cX23_itemTypes 228 = .ok (.aload_n 0, 1) := by decide +kernel
theorem eX23_itemTypes_229 : decode cX23_itemTypes 229 = .ok (.bipush 8, 2) := by decide +kernel
theorem eX23_itemTypes_231 : decode cX23_itemTypes 231 = .ok (.invokevirtual 405, 3) := by decide +kernel
theorem eX23_itemTypes_234 : decode cX23_itemTypes 234 = .ok (.goto 12, 3) := by decide +kernel
theorem eX23_itemTypes_237 : decode cX23_itemTypes 237 = .ok (.aload_n 0, 1) := by decide +kernel
theorem eX23_itemTypes_238 : decode cX23_itemTypes 238 = .ok (.aload_n 1, 1) := by decide +kernel
theorem eX23_itemTypes_239 : decode cX23_itemTypes 239 = .ok (.getfield 210, 3) := by decide +kernel
theorem eX23_itemTypes_242 : decode cX23_itemTypes 242 = .ok (.iconst 1, 1) := by decide +kernel
theorem eX23_itemTypes_243 : decode cX23_itemTypes 243 = .ok (.invokevirtual 409, 3) := by decide +kernel
theorem eX23_itemTypes_246 : decode cX23_itemTypes 246 = .ok (.putfield 422, 3) := by decide +kernel
theorem eX23_itemTypes_249 : decode cX23_itemTypes 249 = .ok (.aload_n 1, 1) := by decide +kernel
theorem eX23_itemTypes_250 : decode cX23_itemTypes 250 = .ok (.aload_n 1, 1) := by decide +kernel
theorem eX23_itemTypes_251 : decode cX23_itemTypes 251 = .ok (.getfield 210, 3) := by decide +kernel
theorem eX23_itemTypes_254 : decode cX23_itemTypes 254 = .ok (.ifnonnull 7, 3) := by decide +kernel
theorem eX23_itemTypes_257 : decode cX23_itemTypes 257 = .ok (.iconst (-1), 1) := by decide +kernel
theorem eX23_itemTypes_258 : decode cX23_itemTypes 258 = .ok (.goto 12, 3) := by decide +kernel
theorem eX23_itemTypes_261 : decode cX23_itemTypes 261 = .ok (.aload_n 0, 1) := by decide +kernel
theorem eX23_itemTypes_262 : decode cX23_itemTypes 262 = .ok (.aload_n 1, 1) := by decide +kernel
theorem eX23_itemTypes_263 : decode cX23_itemTypes 263 = .ok (.aload_n 1, 1) := by decide +kernel
theorem eX23_itemTypes_264 : decode cX23_itemTypes 264 = .ok (.getfield 210, 3) := by decide +kernel
theorem eX23_itemTypes_267 : decode cX23_itemTypes 267 = .ok (.invokevirtual 418, 3) := by decide +kernel
theorem eX23_itemTypes_270 : decode cX23_itemTypes 270 = .ok (.putfield 425, 3) := by decide +kernel
theorem eX23_itemTypes_273 : decode cX23_itemTypes 273 = .ok (.return_, 1) := by decide +kernel
theorem eX23_isItem_0 : decode cX23_isItem 0 = .ok (.aload_n 0, 1) := by decide +kernel
theorem eX23_isItem_1 : decode cX23_isItem 1 = .ok (.getfield 386, 3) := by decide +kernel
theorem eX23_isItem_4 : decode cX23_isItem 4 = .ok (.iconst 3, 1) := by decide +kernel
theorem eX23_isItem_5 : decode cX23_isItem 5 = .ok (.if_icmp .eq 11, 3) := by decide +kernel
theorem eX23_isItem_8 : decode cX23_isItem 8 = .ok (.aload_n 0, 1) := by decide +kernel
theorem eX23_isItem_9 : decode cX23_isItem 9 = .ok (.getfield 386, 3) := by decide +kernel
theorem eX23_isItem_12 : decode cX23_isItem 12 = .ok (.iconst 4, 1) := by decide +kernel
theorem eX23_isItem_13 : decode cX23_isItem 13 = .ok (.if_icmp .ne 15, 3) := by decide +kernel
theorem eX23_isItem_16 : decode cX23_isItem 16 = .ok (.aload_n 0, 1) := by decide +kernel
theorem eX23_isItem_17 : decode cX23_isItem 17 = .ok (.getfield 387, 3) := by decide +kernel
theorem eX23_isItem_20 : decode cX23_isItem 20 = .ok (.iload_n 1, 1) := by decide +kernel
theorem eX23_isItem_21 : decode cX23_isItem 21 = .ok (.if_icmp .ne 7, 3) := by decide +kernel
theorem eX23_isItem_24 : decode cX23_isItem 24 = .ok (.iconst 1, 1) := by decide +kernel
theorem eX23_isItem_25 : decode cX23_isItem 25 = .ok (.goto 4, 3) := by decide +kernel
theorem eX23_isItem_28 : decode cX23_isItem 28 = .ok (.iconst 0, 1) := by decide +kernel
theorem eX23_isItem_29 : decode cX23_isItem 29 = .ok (.ireturn, 1) := by decide +kernel
theorem eX23_lies_0 : decode cX23_lies 0 = .ok (.aload_n 0, 1) := by decide +kernel
theorem eX23_lies_1 : decode cX23_lies 1 = .ok (.getfield 232, 3) := by decide +kernel
theorem eX23_lies_4 : decode cX23_lies 4 = .ok (.iload_n 1, 1) := by decide +kernel
theorem eX23_lies_5 : decode cX23_lies 5 = .ok (.aaload, 1) := by decide +kernel
theorem eX23_lies_6 : decode cX23_lies 6 = .ok (.astore_n 3, 1) := by decide +kernel
theorem eX23_lies_7 : decode cX23_lies 7 = .ok (.iconst 0, 1) := by decide +kernel
theorem eX23_lies_8 : decode cX23_lies 8 = .ok (.istore 4, 2) := by decide +kernel
theorem eX23_lies_10 : decode cX23_lies 10 = .ok (.iload 4, 2) := by decide +kernel
theorem eX23_lies_12 : decode cX23_lies 12 = .ok (.aload_n 3, 1) := by decide +kernel
theorem eX23_lies_13 : decode cX23_lies 13 = .ok (.getfield 139, 3) := by decide +kernel
theorem eX23_lies_16 : decode cX23_lies 16 = .ok (.if_icmp .ge 89, 3) := by decide +kernel
theorem eX23_lies_19 : decode cX23_lies 19 = .ok (.aload_n 3, 1) := by decide +kernel
theorem eX23_lies_20 : decode cX23_lies 20 = .ok (.getfield 174, 3) := by decide +kernel
theorem eX23_lies_23 : decode cX23_lies 23 = .ok (.bipush 10, 2) := by decide +kernel
theorem eX23_lies_25 : decode cX23_lies 25 = .ok (.if_icmp .ne 19, 3) := by decide +kernel
theorem eX23_lies_28 : decode cX23_lies 28 = .ok (.aload_n 3, 1) := by decide +kernel
theorem eX23_lies_29 : decode cX23_lies 29 = .ok (.getfield 175, 3) := by decide +kernel
theorem eX23_lies_32 : decode cX23_lies 32 = .ok (.iload 4, 2) := by decide +kernel
theorem eX23_lies_34 : decode cX23_lies 34 = .ok (.aaload, 1) := by decide +kernel
theorem eX23_lies_35 : decode cX23_lies 35 = .ok (.iload_n 2, 1) := by decide +kernel
theorem eX23_lies_36 : decode cX23_lies 36 = .ok (.invokestatic 428, 3) := by decide +kernel
theorem eX23_lies_39 : decode cX23_lies 39 = .ok (.ifCond .eq 5, 3) := by decide +kernel
theorem eX23_lies_42 : decode cX23_lies 42 = .ok (.iconst 1, 1) := by decide +kernel
theorem eX23_lies_43 : decode cX23_lies 43 = .ok (.ireturn, 1) := by decide +kernel
theorem eX23_lies_44 : decode cX23_lies 44 = .ok (.iconst 0, 1) := by decide +kernel
theorem eX23_lies_45 : decode cX23_lies 45 = .ok (.istore 5, 2) := by decide +kernel
theorem eX23_lies_47 : decode cX23_lies 47 = .ok (.aload_n 3, 1) := by decide +kernel
theorem eX23_lies_48 : decode cX23_lies 48 = .ok (.getfield 174, 3) := by decide +kernel
theorem eX23_lies_51 : decode cX23_lies 51 = .ok (.bipush 11, 2) := by decide +kernel
theorem eX23_lies_53 : decode cX23_lies 53 = .ok (.if_icmp .ne 46, 3) := by decide +kernel
theorem eX23_lies_56 : decode cX23_lies 56 = .ok (.iload 5, 2) := by decide +kernel
theorem eX23_lies_58 : decode cX23_lies 58 = .ok (.aload_n 3, 1) := by decide +kernel
theorem eX23_lies_59 : decode cX23_lies 59 = .ok (.getfield 159, 3) := by decide +kernel
theorem eX23_lies_62 : decode cX23_lies 62 = .ok (.iload 4, 2) := by decide +kernel
theorem eX23_lies_64 : decode cX23_lies 64 = .ok (.aaload, 1) := by decide +kernel
theorem eX23_lies_65 : decode cX23_lies 65 = .ok (.getfield 170, 3) := by decide +kernel
theorem eX23_lies_68 : decode cX23_lies 68 = .ok (.if_icmp .ge 31, 3) := by decide +kernel
theorem eX23_lies_71 : decode cX23_lies 71 = .ok (.aload_n 3, 1) := by decide +kernel
theorem eX23_lies_72 : decode cX23_lies 72 = .ok (.getfield 159, 3) := by decide +kernel
theorem eX23_lies_75 : decode cX23_lies 75 = .ok (.iload 4, 2) := by decide +kernel
theorem eX23_lies_77 : decode cX23_lies 77 = .ok (.aaload, 1) := by decide +kernel
theorem eX23_lies_78 : decode cX23_lies 78 = .ok (.getfield 166, 3) := by decide +kernel
theorem eX23_lies_81 : decode cX23_lies 81 = .ok (.iload 5, 2) := by decide +kernel
theorem eX23_lies_83 : decode cX23_lies 83 = .ok (.aaload, 1) := by decide +kernel
theorem eX23_lies_84 : decode cX23_lies 84 = .ok (.iload_n 2, 1) := by decide +kernel
theorem eX23_lies_85 : decode cX23_lies 85 = .ok (.invokestatic 428, 3) := by decide +kernel
theorem eX23_lies_88 : decode cX23_lies 88 = .ok (.ifCond .eq 5, 3) := by decide +kernel
theorem eX23_lies_91 : decode cX23_lies 91 = .ok (.iconst 1, 1) := by decide +kernel
theorem eX23_lies_92 : decode cX23_lies 92 = .ok (.ireturn, 1) := by decide +kernel
theorem eX23_lies_93 : decode cX23_lies 93 = .ok (.iinc 5 1, 3) := by decide +kernel
theorem eX23_lies_96 : decode cX23_lies 96 = .ok (.goto (-49), 3) := by decide +kernel
theorem eX23_lies_99 : decode cX23_lies 99 = .ok (.iinc 4 1, 3) := by decide +kernel
theorem eX23_lies_102 : decode cX23_lies 102 = .ok (.goto (-92), 3) := by decide +kernel
theorem eX23_lies_105 : decode cX23_lies 105 = .ok (.iconst 0, 1) := by decide +kernel
theorem eX23_lies_106 : decode cX23_lies 106 = .ok (.ireturn, 1) := by decide +kernel
theorem eX23_endless_0 : decode cX23_endless 0 = .ok (.iconst 0, 1) := by decide +kernel
theorem eX23_endless_1 : decode cX23_endless 1 = .ok (.istore_n 1, 1) := by decide +kernel
theorem eX23_endless_2 : decode cX23_endless 2 = .ok (.iload_n 1, 1) := by decide +kernel
theorem eX23_endless_3 : decode cX23_endless 3 = .ok (.aload_n 0, 1) := by decide +kernel
theorem eX23_endless_4 : decode cX23_endless 4 = .ok (.getfield 221, 3) := by decide +kernel
theorem eX23_endless_7 : decode cX23_endless 7 = .ok (.if_icmp .ge 78, 3) := by decide +kernel
theorem eX23_endless_10 : decode cX23_endless 10 = .ok (.iconst 0, 1) := by decide +kernel
theorem eX23_endless_11 : decode cX23_endless 11 = .ok (.istore_n 2, 1) := by decide +kernel
theorem eX23_endless_12 : decode cX23_endless 12 = .ok (.iload_n 2, 1) := by decide +kernel
theorem eX23_endless_13 : decode cX23_endless 13 = .ok (.aload_n 0, 1) := by decide +kernel
theorem eX23_endless_14 : decode cX23_endless 14 = .ok (.getfield 221, 3) := by decide +kernel
theorem eX23_endless_17 : decode cX23_endless 17 = .ok (.if_icmp .ge 62, 3) := by decide +kernel
theorem eX23_endless_20 : decode cX23_endless 20 = .ok (.aload_n 0, 1) := by decide +kernel
theorem eX23_endless_21 : decode cX23_endless 21 = .ok (.getfield 432, 3) := by decide +kernel
theorem eX23_endless_24 : decode cX23_endless 24 = .ok (.bipush 70, 2) := by decide +kernel
theorem eX23_endless_26 : decode cX23_endless 26 = .ok (.iload_n 1, 1) := by decide +kernel
theorem eX23_endless_27 : decode cX23_endless 27 = .ok (.imul, 1) := by decide +kernel
theorem eX23_endless_28 : decode cX23_endless 28 = .ok (.iload_n 2, 1) := by decide +kernel
theorem eX23_endless_29 : decode cX23_endless 29 = .ok (.iadd, 1) := by decide +kernel
theorem eX23_endless_30 : decode cX23_endless 30 = .ok (.aload_n 0, 1) := by decide +kernel
theorem eX23_endless_31 : decode cX23_endless 31 = .ok (.getfield 232, 3) := by decide +kernel
theorem eX23_endless_34 : decode cX23_endless 34 = .ok (.iload_n 1, 1) := by decide +kernel
theorem eX23_endless_35 : decode cX23_endless 35 = .ok (.aaload, 1) := by decide +kernel
theorem eX23_endless_36 : decode cX23_endless 36 = .ok (.getfield 174, 3) := by decide +kernel
theorem eX23_endless_39 : decode cX23_endless 39 = .ok (.bipush 12, 2) := by decide +kernel
theorem eX23_endless_41 : decode cX23_endless 41 = .ok (.if_icmp .eq 30, 3) := by decide +kernel
theorem eX23_endless_44 : decode cX23_endless 44 = .ok (.aload_n 0, 1) := by decide +kernel
theorem eX23_endless_45 : decode cX23_endless 45 = .ok (.getfield 232, 3) := by decide +kernel
theorem eX23_endless_48 : decode cX23_endless 48 = .ok (.iload_n 2, 1) := by decide +kernel
theorem eX23_endless_49 : decode cX23_endless 49 = .ok (.aaload, 1) := by decide +kernel
theorem eX23_endless_50 : decode cX23_endless 50 = .ok (.getfield 174, 3) := by decide +kernel
theorem eX23_endless_53 : decode cX23_endless 53 = .ok (.bipush 12, 2) := by decide +kernel
theorem eX23_endless_55 : decode cX23_endless 55 = .ok (.if_icmp .eq 16, 3) := by decide +kernel
theorem eX23_endless_58 : decode cX23_endless 58 = .ok (.aload_n 0, 1) := by decide +kernel
theorem eX23_endless_59 : decode cX23_endless 59 = .ok (.iload_n 1, 1) := by decide +kernel
theorem eX23_endless_60 : decode cX23_endless 60 = .ok (.iload_n 2, 1) := by decide +kernel
theorem eX23_endless_61 : decode cX23_endless 61 = .ok (.invokevirtual 436, 3) := by decide +kernel
theorem eX23_endless_64 : decode cX23_endless 64 = .ok (.ifCond .eq 7, 3) := by decide +kernel
theorem eX23_endless_67 : decode cX23_endless 67 = .ok (.iconst 1, 1) := by decide +kernel
theorem eX23_endless_68 : decode cX23_endless 68 = .ok (.goto 4, 3) := by decide +kernel
theorem eX23_endless_71 : decode cX23_endless 71 = .ok (.iconst 0, 1) := by decide +kernel
theorem eX23_endless_72 : decode cX23_endless 72 = .ok (.bastore, 1) := by decide +kernel
theorem eX23_endless_73 : decode cX23_endless 73 = .ok (.iinc 2 1, 3) := by decide +kernel
theorem eX23_endless_76 : decode cX23_endless 76 = .ok (.goto (-64), 3) := by decide +kernel
theorem eX23_endless_79 : decode cX23_endless 79 = .ok (.iinc 1 1, 3) := by decide +kernel
theorem eX23_endless_82 : decode cX23_endless 82 = .ok (.goto (-80), 3) := by decide +kernel
theorem eX23_endless_85 : decode cX23_endless 85 = .ok (.iconst 0, 1) := by decide +kernel
theorem eX23_endless_86 : decode cX23_endless 86 = .ok (.istore_n 1, 1) := by decide +kernel
theorem eX23_endless_87 : decode cX23_endless 87 = .ok (.iload_n 1, 1) := by decide +kernel
theorem eX23_endless_88 : decode cX23_endless 88 = .ok (.aload_n 0, 1) := by decide +kernel
theorem eX23_endless_89 : decode cX23_endless 89 = .ok (.getfield 221, 3) := by decide +kernel
theorem eX23_endless_92 : decode cX23_endless 92 = .ok (.if_icmp .ge 81, 3) := by decide +kernel
theorem eX23_endless_95 : decode cX23_endless 95 = .ok (.iconst 0, 1) := by decide +kernel
theorem eX23_endless_96 : decode cX23_endless 96 = .ok (.istore_n 2, 1) := by decide +kernel
theorem eX23_endless_97 : decode cX23_endless 97 = .ok (.iload_n 2, 1) := by decide +kernel
theorem eX23_endless_98 : decode cX23_endless 98 = .ok (.aload_n 0, 1) := by decide +kernel
theorem eX23_endless_99 : decode cX23_endless 99 = .ok (.getfield 221, 3) := by decide +kernel
theorem eX23_endless_102 : decode cX23_endless 102 = .ok (.if_icmp .ge 65, 3) := by decide +kernel
theorem eX23_endless_105 : decode cX23_endless 105 = .ok (.iconst 0, 1) := by decide +kernel
theorem eX23_endless_106 : decode cX23_endless 106 = .ok (.istore_n 3, 1) := by decide +kernel
theorem eX23_endless_107 : decode cX23_endless 107 = .ok (.iload_n 3, 1) := by decide +kernel
theorem eX23_endless_108 : decode cX23_endless 108 = .ok (.aload_n 0, 1) := by decide +kernel
theorem eX23_endless_109 : decode cX23_endless 109 = .ok (.getfield 221, 3) := by decide +kernel
theorem eX23_endless_112 : decode cX23_endless 112 = .ok (.if_icmp .ge 49, 3) := by decide +kernel
theorem eX23_endless_115 : decode cX23_endless 115 = .ok (.aload_n 0, 1) := by decide +kernel
theorem eX23_endless_116 : decode cX23_endless 116 = .ok (.getfield 432, 3) := by decide +kernel
theorem eX23_endless_119 : decode cX23_endless 119 = .ok (.bipush 70, 2) := by decide +kernel
theorem eX23_endless_121 : decode cX23_endless 121 = .ok (.iload_n 2, 1) := by decide +kernel
theorem eX23_endless_122 : decode cX23_endless 122 = .ok (.imul, 1) := by decide +kernel
theorem eX23_endless_123 : decode cX23_endless 123 = .ok (.iload_n 1, 1) := by decide +kernel
theorem eX23_endless_124 : decode cX23_endless 124 = .ok (.iadd, 1) := by decide +kernel
theorem eX23_endless_125 : decode cX23_endless 125 = .ok (.baload, 1) := by decide +kernel
theorem eX23_endless_126 : decode cX23_endless 126 = .ok (.ifCond .eq 29, 3) := by decide +kernel
theorem eX23_endless_129 : decode cX23_endless 129 = .ok (.aload_n 0, 1) := by decide +kernel
theorem eX23_endless_130 : decode cX23_endless 130 = .ok (.getfield 432, 3) := by decide +kernel
theorem eX23_endless_133 : decode cX23_endless 133 = .ok (.bipush 70, 2) := by decide +kernel
theorem eX23_endless_135 : decode cX23_endless 135 = .ok (.iload_n 1, 1) := by decide +kernel
theorem eX23_endless_136 : decode cX23_endless 136 = .ok (.imul, 1) := by decide +kernel
theorem eX23_endless_137 : decode cX23_endless 137 = .ok (.iload_n 3, 1) := by decide +kernel
theorem eX23_endless_138 : decode cX23_endless 138 = .ok (.iadd, 1) := by decide +kernel
theorem eX23_endless_139 : decode cX23_endless 139 = .ok (.baload, 1) := by decide +kernel
theorem eX23_endless_140 : decode cX23_endless 140 = .ok (.ifCond .eq 15, 3) := by decide +kernel
theorem eX23_endless_143 : decode cX23_endless 143 = .ok (.aload_n 0, 1) := by decide +kernel
theorem eX23_endless_144 : decode cX23_endless 144 = .ok (.getfield 432, 3) := by decide +kernel
theorem eX23_endless_147 : decode cX23_endless 147 = .ok (.bipush 70, 2) := by decide +kernel
theorem eX23_endless_149 : decode cX23_endless 149 = .ok (.iload_n 2, 1) := by decide +kernel
theorem eX23_endless_150 : decode cX23_endless 150 = .ok (.imul, 1) := by decide +kernel
theorem eX23_endless_151 : decode cX23_endless 151 = .ok (.iload_n 3, 1) := by decide +kernel
theorem eX23_endless_152 : decode cX23_endless 152 = .ok (.iadd, 1) := by decide +kernel
theorem eX23_endless_153 : decode cX23_endless 153 = .ok (.iconst 1, 1) := by decide +kernel
theorem eX23_endless_154 : decode cX23_endless 154 = .ok (.bastore, 1) := by decide +kernel
theorem eX23_endless_155 : decode cX23_endless 155 = .ok (.iinc 3 1, 3) := by decide +kernel
theorem eX23_endless_158 : decode cX23_endless 158 = .ok (.goto (-51), 3) := by decide +kernel
theorem eX23_endless_161 : decode cX23_endless 161 = .ok (.iinc 2 1, 3) := by decide +kernel
theorem eX23_endless_164 : decode cX23_endless 164 = .ok (.goto (-67), 3) := by decide +kernel
theorem eX23_endless_167 : decode cX23_endless 167 = .ok (.iinc 1 1, 3) := by decide +kernel
theorem eX23_endless_170 : decode cX23_endless 170 = .ok (.goto (-83), 3) := by decide +kernel
theorem eX23_endless_173 : decode cX23_endless 173 = .ok (.iconst 0, 1) := by decide +kernel
theorem eX23_endless_174 : decode cX23_endless 174 = .ok (.istore_n 1, 1) := by decide +kernel
theorem eX23_endless_175 : decode cX23_endless 175 = .ok (.iload_n 1, 1) := by decide +kernel
theorem eX23_endless_176 : decode cX23_endless 176 = .ok (.aload_n 0, 1) := by decide +kernel
theorem eX23_endless_177 : decode cX23_endless 177 = .ok (.getfield 221, 3) := by decide +kernel
theorem eX23_endless_180 : decode cX23_endless 180 = .ok (.if_icmp .ge 93, 3) := by decide +kernel
theorem eX23_endless_183 : decode cX23_endless 183 = .ok (.aload_n 0, 1) := by decide +kernel
theorem eX23_endless_184 : decode cX23_endless 184 = .ok (.getfield 232, 3) := by decide +kernel
theorem eX23_endless_187 : decode cX23_endless 187 = .ok (.iload_n 1, 1) := by decide +kernel
theorem eX23_endless_188 : decode cX23_endless 188 = .ok (.aaload, 1) := by decide +kernel
theorem eX23_endless_189 : decode cX23_endless 189 = .ok (.aload_n 0, 1) := by decide +kernel
theorem eX23_endless_190 : decode cX23_endless 190 = .ok (.getfield 432, 3) := by decide +kernel
theorem eX23_endless_193 : decode cX23_endless 193 = .ok (.bipush 70, 2) := by decide +kernel
theorem eX23_endless_195 : decode cX23_endless 195 = .ok (.iload_n 1, 1) := by decide +kernel
theorem eX23_endless_196 : decode cX23_endless 196 = .ok (.imul, 1) := by decide +kernel
theorem eX23_endless_197 : decode cX23_endless 197 = .ok (.iload_n 1, 1) := by decide +kernel
theorem eX23_endless_198 : decode cX23_endless 198 = .ok (.iadd, 1) := by decide +kernel
theorem eX23_endless_199 : decode cX23_endless 199 = .ok (.baload, 1) := by decide +kernel
theorem eX23_endless_200 : decode cX23_endless 200 = .ok (.putfield 439, 3) := by decide +kernel
theorem eX23_endless_203 : decode cX23_endless 203 = .ok (.iconst 0, 1) := by decide +kernel
theorem eX23_endless_204 : decode cX23_endless 204 = .ok (.istore_n 2, 1) := by decide +kernel
theorem eX23_endless_205 : decode cX23_endless 205 = .ok (.iload_n 2, 1) := by decide +kernel
theorem eX23_endless_206 : decode cX23_endless 206 = .ok (.aload_n 0, 1) := by decide +kernel
theorem eX23_endless_207 : decode cX23_endless 207 = .ok (.getfield 221, 3) := by decide +kernel
theorem eX23_endless_210 : decode cX23_endless 210 = .ok (.if_icmp .ge 47, 3) := by decide +kernel
theorem eX23_endless_213 : decode cX23_endless 213 = .ok (.aload_n 0, 1) := by decide +kernel
theorem eX23_endless_214 : decode cX23_endless 214 = .ok (.getfield 432, 3) := by decide +kernel
theorem eX23_endless_217 : decode cX23_endless 217 = .ok (.bipush 70, 2) := by decide +kernel
theorem eX23_endless_219 : decode cX23_endless 219 = .ok (.iload_n 1, 1) := by decide +kernel
theorem eX23_endless_220 : decode cX23_endless 220 = .ok (.imul, 1) := by decide +kernel
theorem eX23_endless_221 : decode cX23_endless 221 = .ok (.iload_n 2, 1) := by decide +kernel
theorem eX23_endless_222 : decode cX23_endless 222 = .ok (.iadd, 1) := by decide +kernel
theorem eX23_endless_223 : decode cX23_endless 223 = .ok (.baload, 1) := by decide +kernel
theorem eX23_endless_224 : decode cX23_endless 224 = .ok (.ifCond .eq 27, 3) := by decide +kernel
theorem eX23_endless_227 : decode cX23_endless 227 = .ok (.aload_n 0, 1) := by decide +kernel
theorem eX23_endless_228 : decode cX23_endless 228 = .ok (.getfield 432, 3) := by decide +kernel
theorem eX23_endless_231 : decode cX23_endless 231 = .ok (.bipush 70, 2) := by decide +kernel
theorem eX23_endless_233 : decode cX23_endless 233 = .ok (.iload_n 2, 1) := by decide +kernel
theorem eX23_endless_234 : decode cX23_endless 234 = .ok (.imul, 1) := by decide +kernel
theorem eX23_endless_235 : decode cX23_endless 235 = .ok (.iload_n 2, 1) := by decide +kernel
theorem eX23_endless_236 : decode cX23_endless 236 = .ok (.iadd, 1) := by decide +kernel
theorem eX23_endless_237 : decode cX23_endless 237 = .ok (.baload, 1) := by decide +kernel
theorem eX23_endless_238 : decode cX23_endless 238 = .ok (.ifCond .eq 13, 3) := by decide +kernel
theorem eX23_endless_241 : decode cX23_endless 241 = .ok (.aload_n 0, 1) := by decide +kernel
theorem eX23_endless_242 : decode cX23_endless 242 = .ok (.getfield 232, 3) := by decide +kernel
theorem eX23_endless_245 : decode cX23_endless 245 = .ok (.iload_n 1, 1) := by decide +kernel
theorem eX23_endless_246 : decode cX23_endless 246 = .ok (.aaload, 1) := by decide +kernel
theorem eX23_endless_247 : decode cX23_endless 247 = .ok (.iconst 1, 1) := by decide +kernel
theorem eX23_endless_248 : decode cX23_endless 248 = .ok (.putfield 439, 3) := by decide +kernel
theorem eX23_endless_251 : decode cX23_endless 251 = .ok (.iinc 2 1, 3) := by decide +kernel
theorem eX23_endless_254 : decode cX23_endless 254 = .ok (.goto (-49), 3) := by decide +kernel
theorem eX23_endless_257 : decode cX23_endless 257 = .ok (.aload_n 0, 1) := by decide +kernel
theorem eX23_endless_258 : decode cX23_endless 258 = .ok (.getfield 232, 3) := by decide +kernel
theorem eX23_endless_261 : decode cX23_endless 261 = .ok (.iload_n 1, 1) := by decide +kernel
theorem eX23_endless_262 : decode cX23_endless 262 = .ok (.aaload, 1) := by decide +kernel
theorem eX23_endless_263 : decode cX23_endless 263 = .ok (.iconst 0, 1) := by decide +kernel
theorem eX23_endless_264 : decode cX23_endless 264 = .ok (.putfield 442, 3) := by decide +kernel
theorem eX23_endless_267 : decode cX23_endless 267 = .ok (.iinc 1 1, 3) := by decide +kernel
theorem eX23_endless_270 : decode cX23_endless 270 = .ok (.goto (-95), 3) := by decide +kernel
theorem eX23_endless_273 : decode cX23_endless 273 = .ok (.return_, 1) := by decide +kernel
theorem eX23_sizeOf_0 : decode cX23_sizeOf 0 = .ok (.aload_n 1, 1) := by decide +kernel
theorem eX23_sizeOf_1 : decode cX23_sizeOf 1 = .ok (.getfield 386, 3) := by decide +kernel
theorem eX23_sizeOf_4 : decode cX23_sizeOf 4 = .ok (.iconst 3, 1) := by decide +kernel
theorem eX23_sizeOf_5 : decode cX23_sizeOf 5 = .ok (.if_icmp .eq 11, 3) := by decide +kernel
theorem eX23_sizeOf_8 : decode cX23_sizeOf 8 = .ok (.aload_n 1, 1) := by decide +kernel
theorem eX23_sizeOf_9 : decode cX23_sizeOf 9 = .ok (.getfield 386, 3) := by decide +kernel
theorem eX23_sizeOf_12 : decode cX23_sizeOf 12 = .ok (.iconst 4, 1) := by decide +kernel
theorem eX23_sizeOf_13 : decode cX23_sizeOf 13 = .ok (.if_icmp .ne 19, 3) := by decide +kernel
theorem eX23_sizeOf_16 : decode cX23_sizeOf 16 = .ok (.aload_n 0, 1) := by decide +kernel
theorem eX23_sizeOf_17 : decode cX23_sizeOf 17 = .ok (.aload_n 0, 1) := by decide +kernel
theorem eX23_sizeOf_18 : decode cX23_sizeOf 18 = .ok (.getfield 232, 3) := by decide +kernel
theorem eX23_sizeOf_21 : decode cX23_sizeOf 21 = .ok (.aload_n 1, 1) := by decide +kernel
theorem eX23_sizeOf_22 : decode cX23_sizeOf 22 = .ok (.getfield 387, 3) := by decide +kernel
theorem eX23_sizeOf_25 : decode cX23_sizeOf 25 = .ok (.aaload, 1) := by decide +kernel
theorem eX23_sizeOf_26 : decode cX23_sizeOf 26 = .ok (.invokevirtual 443, 3) := by decide +kernel
theorem eX23_sizeOf_29 : decode cX23_sizeOf 29 = .ok (.goto 4, 3) := by decide +kernel
theorem eX23_sizeOf_32 : decode cX23_sizeOf 32 = .ok (.iconst 1, 1) := by decide +kernel
theorem eX23_sizeOf_33 : decode cX23_sizeOf 33 = .ok (.ireturn, 1) := by decide +kernel
theorem eX23_sizeOfItem_0 : decode cX23_sizeOfItem 0 = .ok (.aload_n 1, 1) := by decide +kernel
theorem eX23_sizeOfItem_1 : decode cX23_sizeOfItem 1 = .ok (.getfield 442, 3) := by decide +kernel
theorem eX23_sizeOfItem_4 : decode cX23_sizeOfItem 4 = .ok (.ifCond .le 8, 3) := by decide +kernel
theorem eX23_sizeOfItem_7 : decode cX23_sizeOfItem 7 = .ok (.aload_n 1, 1) := by decide +kernel
theorem eX23_sizeOfItem_8 : decode cX23_sizeOfItem 8 = .ok (.getfield 442, 3) := by decide +kernel
theorem eX23_sizeOfItem_11 : decode cX23_sizeOfItem 11 = .ok (.ireturn, 1) := by decide +kernel
theorem eX23_sizeOfItem_12 : decode cX23_sizeOfItem 12 = .ok (.iconst 0, 1) := by decide +kernel
theorem eX23_sizeOfItem_13 : decode cX23_sizeOfItem 13 = .ok (.istore_n 2, 1) := by decide +kernel
theorem eX23_sizeOfItem_14 : decode cX23_sizeOfItem 14 = .ok (.iconst 0, 1) := by decide +kernel
theorem eX23_sizeOfItem_15 : decode cX23_sizeOfItem 15 = .ok (.istore_n 3, 1) := by decide +kernel
theorem eX23_sizeOfItem_16 : decode cX23_sizeOfItem 16 = .ok (.iload_n 3, 1) := by decide +kernel
theorem eX23_sizeOfItem_17 : decode cX23_sizeOfItem 17 = .ok (.aload_n 1, 1) := by decide +kernel
theorem eX23_sizeOfItem_18 : decode cX23_sizeOfItem 18 = .ok (.getfield 139, 3) := by decide +kernel
theorem eX23_sizeOfItem_21 : decode cX23_sizeOfItem 21 = .ok (.if_icmp .ge 90, 3) := by decide +kernel
theorem eX23_sizeOfItem_24 : decode cX23_sizeOfItem 24 = .ok (.aload_n 1, 1) := by decide +kernel
theorem eX23_sizeOfItem_25 : decode cX23_sizeOfItem 25 = .ok (.getfield 174, 3) := by decide +kernel
theorem eX23_sizeOfItem_28 : decode cX23_sizeOfItem 28 = .ok (.bipush 10, 2) := by decide +kernel
theorem eX23_sizeOfItem_30 : decode cX23_sizeOfItem 30 = .ok (.if_icmp .ne 19, 3) := by decide +kernel
theorem eX23_sizeOfItem_33 : decode cX23_sizeOfItem 33 = .ok (.iload_n 2, 1) := by decide +kernel
theorem eX23_sizeOfItem_34 : decode cX23_sizeOfItem 34 = .ok (.aload_n 0, 1) := by decide +kernel
theorem eX23_sizeOfItem_35 : decode cX23_sizeOfItem 35 = .ok (.aload_n 1, 1) := by decide +kernel
theorem eX23_sizeOfItem_36 : decode cX23_sizeOfItem 36 = .ok (.getfield 175, 3) := by decide +kernel
theorem eX23_sizeOfItem_39 : decode cX23_sizeOfItem 39 = .ok (.iload_n 3, 1) := by decide +kernel
theorem eX23_sizeOfItem_40 : decode cX23_sizeOfItem 40 = .ok (.aaload, 1) := by decide +kernel
theorem eX23_sizeOfItem_41 : decode cX23_sizeOfItem 41 = .ok (.invokevirtual 447, 3) := by decide +kernel
theorem eX23_sizeOfItem_44 : decode cX23_sizeOfItem 44 = .ok (.iadd, 1) := by decide +kernel
theorem eX23_sizeOfItem_45 : decode cX23_sizeOfItem 45 = .ok (.istore_n 2, 1) := by decide +kernel
theorem eX23_sizeOfItem_46 : decode cX23_sizeOfItem 46 = .ok (.goto 59, 3) := by decide +kernel
theorem eX23_sizeOfItem_49 : decode cX23_sizeOfItem 49 = .ok (.iconst 1, 1) := by decide +kernel
theorem eX23_sizeOfItem_50 : decode cX23_sizeOfItem 50 = .ok (.istore 4, 2) := by decide +kernel
theorem eX23_sizeOfItem_52 : decode cX23_sizeOfItem 52 = .ok (.iconst 0, 1) := by decide +kernel
theorem eX23_sizeOfItem_53 : decode cX23_sizeOfItem 53 = .ok (.istore 5, 2) := by decide +kernel
theorem eX23_sizeOfItem_55 : decode cX23_sizeOfItem 55 = .ok (.iload 5, 2) := by decide +kernel
theorem eX23_sizeOfItem_57 : decode cX23_sizeOfItem 57 = .ok (.aload_n 1, 1) := by decide +kernel
theorem eX23_sizeOfItem_58 : decode cX23_sizeOfItem 58 = .ok (.getfield 159, 3) := by decide +kernel
theorem eX23_sizeOfItem_61 : decode cX23_sizeOfItem 61 = .ok (.iload_n 3, 1) := by decide +kernel
theorem eX23_sizeOfItem_62 : decode cX23_sizeOfItem 62 = .ok (.aaload, 1) := by decide +kernel
theorem eX23_sizeOfItem_63 : decode cX23_sizeOfItem 63 = .ok (.getfield 170, 3) := by decide +kernel
theorem eX23_sizeOfItem_66 : decode cX23_sizeOfItem 66 = .ok (.if_icmp .ge 30, 3) := by decide +kernel
theorem eX23_sizeOfItem_69 : decode cX23_sizeOfItem 69 = .ok (.iload 4, 2) := by decide +kernel
theorem eX23_sizeOfItem_71 : decode cX23_sizeOfItem 71 = .ok (.aload_n 0, 1) := by decide +kernel
theorem eX23_sizeOfItem_72 : decode cX23_sizeOfItem 72 = .ok (.aload_n 1, 1) := by decide +kernel
theorem eX23_sizeOfItem_73 : decode cX23_sizeOfItem 73 = .ok (.getfield 159, 3) := by decide +kernel
theorem eX23_sizeOfItem_76 : decode cX23_sizeOfItem 76 = .ok (.iload_n 3, 1) := by decide +kernel
theorem eX23_sizeOfItem_77 : decode cX23_sizeOfItem 77 = .ok (.aaload, 1) := by decide +kernel
theorem eX23_sizeOfItem_78 : decode cX23_sizeOfItem 78 = .ok (.getfield 166, 3) := by decide +kernel
theorem eX23_sizeOfItem_81 : decode cX23_sizeOfItem 81 = .ok (.iload 5, 2) := by decide +kernel
theorem eX23_sizeOfItem_83 : decode cX23_sizeOfItem 83 = .ok (.aaload, 1) := by decide +kernel
theorem eX23_sizeOfItem_84 : decode cX23_sizeOfItem 84 = .ok (.invokevirtual 447, 3) := by decide +kernel
theorem eX23_sizeOfItem_87 : decode cX23_sizeOfItem 87 = .ok (.iadd, 1) := by decide +kernel
theorem eX23_sizeOfItem_88 : decode cX23_sizeOfItem 88 = .ok (.istore 4, 2) := by decide +kernel
theorem eX23_sizeOfItem_90 : decode cX23_sizeOfItem 90 = .ok (.iinc 5 1, 3) := by decide +kernel
theorem eX23_sizeOfItem_93 : decode cX23_sizeOfItem 93 = .ok (.goto (-38), 3) := by decide +kernel
theorem eX23_sizeOfItem_96 : decode cX23_sizeOfItem 96 = .ok (.iload 4, 2) := by decide +kernel
theorem eX23_sizeOfItem_98 : decode cX23_sizeOfItem 98 = .ok (.iload_n 2, 1) := by decide +kernel
theorem eX23_sizeOfItem_99 : decode cX23_sizeOfItem 99 = .ok (.if_icmp .le 6, 3) := by decide +kernel
theorem eX23_sizeOfItem_102 : decode cX23_sizeOfItem 102 = .ok (.iload 4, 2) := by decide +kernel
theorem eX23_sizeOfItem_104 : decode cX23_sizeOfItem 104 = .ok (.istore_n 2, 1) := by decide +kernel
theorem eX23_sizeOfItem_105 : decode cX23_sizeOfItem 105 = .ok (.iinc 3 1, 3) := by decide +kernel
theorem eX23_sizeOfItem_108 : decode cX23_sizeOfItem 108 = .ok (.goto (-92), 3) := by decide +kernel
theorem eX23_sizeOfItem_111 : decode cX23_sizeOfItem 111 = .ok (.aload_n 1, 1) := by decide +kernel
theorem eX23_sizeOfItem_112 : decode cX23_sizeOfItem 112 = .ok (.iload_n 2, 1) := by decide +kernel
theorem eX23_sizeOfItem_113 : decode cX23_sizeOfItem 113 = .ok (.sipush 1000, 3) := by decide +kernel
theorem eX23_sizeOfItem_116 : decode cX23_sizeOfItem 116 = .ok (.if_icmp .le 9, 3) := by decide +kernel
theorem eX23_sizeOfItem_119 : decode cX23_sizeOfItem 119 = .ok (.sipush 1000, 3) := by decide +kernel
theorem eX23_sizeOfItem_122 : decode cX23_sizeOfItem 122 = .ok (.goto 4, 3) := by decide +kernel
theorem eX23_sizeOfItem_125 : decode cX23_sizeOfItem 125 = .ok (.iload_n 2, 1) := by decide +kernel
theorem eX23_sizeOfItem_126 : decode cX23_sizeOfItem 126 = .ok (.putfield 442, 3) := by decide +kernel
theorem eX23_sizeOfItem_129 : decode cX23_sizeOfItem 129 = .ok (.aload_n 1, 1) := by decide +kernel
theorem eX23_sizeOfItem_130 : decode cX23_sizeOfItem 130 = .ok (.getfield 442, 3) := by decide +kernel
theorem eX23_sizeOfItem_133 : decode cX23_sizeOfItem 133 = .ok (.ireturn, 1) := by decide +kernel
theorem eX23_sizes_0 : decode cX23_sizes 0 = .ok (.aload_n 0, 1) := by decide +kernel
theorem eX23_sizes_1 : decode cX23_sizes 1 = .ok (.invokevirtual 451, 3) := by decide +kernel
theorem eX23_sizes_4 : decode cX23_sizes 4 = .ok (.iconst 0, 1) := by decide +kernel
theorem eX23_sizes_5 : decode cX23_sizes 5 = .ok (.istore_n 1, 1) := by decide +kernel
theorem eX23_sizes_6 : decode cX23_sizes 6 = .ok (.iload_n 1, 1) := by decide +kernel
theorem eX23_sizes_7 : decode cX23_sizes 7 = .ok (.aload_n 0, 1) := by decide +kernel
theorem eX23_sizes_8 : decode cX23_sizes 8 = .ok (.getfield 221, 3) := by decide +kernel
theorem eX23_sizes_11 : decode cX23_sizes 11 = .ok (.if_icmp .ge 71, 3) := by decide +kernel
theorem eX23_sizes_14 : decode cX23_sizes 14 = .ok (.aload_n 0, 1) := by decide +kernel
theorem eX23_sizes_15 : decode cX23_sizes 15 = .ok (.invokevirtual 89, 3) := by decide +kernel
theorem eX23_sizes_18 : decode cX23_sizes 18 = .ok (.ifCond .eq 64, 3) := by decide +kernel
theorem eX23_sizes_21 : decode cX23_sizes 21 = .ok (.aload_n 0, 1) := by decide +kernel
theorem eX23_sizes_22 : decode cX23_sizes 22 = .ok (.getfield 232, 3) := by decide +kernel
theorem eX23_sizes_25 : decode cX23_sizes 25 = .ok (.iload_n 1, 1) := by decide +kernel
theorem eX23_sizes_26 : decode cX23_sizes 26 = .ok (.aaload, 1) := by decide +kernel
theorem eX23_sizes_27 : decode cX23_sizes 27 = .ok (.getfield 174, 3) := by decide +kernel
theorem eX23_sizes_30 : decode cX23_sizes 30 = .ok (.bipush 12, 2) := by decide +kernel
theorem eX23_sizes_32 : decode cX23_sizes 32 = .ok (.if_icmp .eq 44, 3) := by decide +kernel
theorem eX23_sizes_35 : decode cX23_sizes 35 = .ok (.aload_n 0, 1) := by decide +kernel
theorem eX23_sizes_36 : decode cX23_sizes 36 = .ok (.getfield 232, 3) := by decide +kernel
theorem eX23_sizes_39 : decode cX23_sizes 39 = .ok (.iload_n 1, 1) := by decide +kernel
theorem eX23_sizes_40 : decode cX23_sizes 40 = .ok (.aaload, 1) := by decide +kernel
theorem eX23_sizes_41 : decode cX23_sizes 41 = .ok (.getfield 439, 3) := by decide +kernel
theorem eX23_sizes_44 : decode cX23_sizes 44 = .ok (.ifCond .ne 18, 3) := by decide +kernel
theorem eX23_sizes_47 : decode cX23_sizes 47 = .ok (.aload_n 0, 1) := by decide +kernel
theorem eX23_sizes_48 : decode cX23_sizes 48 = .ok (.aload_n 0, 1) := by decide +kernel
theorem eX23_sizes_49 : decode cX23_sizes 49 = .ok (.getfield 232, 3) := by decide +kernel
theorem eX23_sizes_52 : decode cX23_sizes 52 = .ok (.iload_n 1, 1) := by decide +kernel
theorem eX23_sizes_53 : decode cX23_sizes 53 = .ok (.aaload, 1) := by decide +kernel
theorem eX23_sizes_54 : decode cX23_sizes 54 = .ok (.invokevirtual 443, 3) := by decide +kernel
theorem eX23_sizes_57 : decode cX23_sizes 57 = .ok (.bipush 16, 2) := by decide +kernel
theorem eX23_sizes_59 : decode cX23_sizes 59 = .ok (.if_icmp .le 17, 3) := by decide +kernel
theorem eX23_sizes_62 : decode cX23_sizes 62 = .ok (.aload_n 0, 1) := by decide +kernel
theorem eX23_sizes_63 : decode cX23_sizes 63 = .ok (.iconst 4, 1) := by decide +kernel
theorem eX23_sizes_64 : decode cX23_sizes 64 = .ok (.aload_n 0, 1) := by decide +kernel
theorem eX23_sizes_65 : decode cX23_sizes 65 = .ok (.getfield 232, 3) := by decide +kernel
theorem eX23_sizes_68 : decode cX23_sizes 68 = .ok (.iload_n 1, 1) := by decide +kernel
theorem eX23_sizes_69 : decode cX23_sizes 69 = .ok (.aaload, 1) := by decide +kernel
theorem eX23_sizes_70 : decode cX23_sizes 70 = .ok (.getfield 176, 3) := by decide +kernel
theorem eX23_sizes_73 : decode cX23_sizes 73 = .ok (.invokevirtual 96, 3) := by decide +kernel
theorem eX23_sizes_76 : decode cX23_sizes 76 = .ok (.iinc 1 1, 3) := by decide +kernel
theorem eX23_sizes_79 : decode cX23_sizes 79 = .ok (.goto (-73), 3) := by decide +kernel
theorem eX23_sizes_82 : decode cX23_sizes 82 = .ok (.return_, 1) := by decide +kernel
theorem eX23_leavesOfItem_0 : decode cX23_leavesOfItem 0 = .ok (.aload_n 1, 1) := by decide +kernel
theorem eX23_leavesOfItem_1 : decode cX23_leavesOfItem 1 = .ok (.getfield 453, 3) := by decide +kernel
theorem eX23_leavesOfItem_4 : decode cX23_leavesOfItem 4 = .ok (.ifCond .ne 63, 3) := by decide +kernel
theorem eX23_leavesOfItem_7 : decode cX23_leavesOfItem 7 = .ok (.iconst 0, 1) := by decide +kernel
theorem eX23_leavesOfItem_8 : decode cX23_leavesOfItem 8 = .ok (.istore_n 2, 1) := by decide +kernel
theorem eX23_leavesOfItem_9 : decode cX23_leavesOfItem 9 = .ok (.iload_n 2, 1) := by decide +kernel
theorem eX23_leavesOfItem_10 : decode cX23_leavesOfItem 10 = .ok (.aload_n 1, 1) := by decide +kernel
theorem eX23_leavesOfItem_11 : decode cX23_leavesOfItem 11 = .ok (.getfield 139, 3) := by decide +kernel
theorem eX23_leavesOfItem_14 : decode cX23_leavesOfItem 14 = .ok (.if_icmp .ge 53, 3) := by decide +kernel
theorem eX23_leavesOfItem_17 : decode cX23_leavesOfItem 17 = .ok (.aload_n 1, 1) := by decide +kernel
theorem eX23_leavesOfItem_18 : decode cX23_leavesOfItem 18 = .ok (.dup, 1) := by decide +kernel
theorem eX23_leavesOfItem_19 : decode cX23_leavesOfItem 19 = .ok (.getfield 453, 3) := by decide +kernel
theorem eX23_leavesOfItem_22 : decode cX23_leavesOfItem 22 = .ok (.aload_n 1, 1) := by decide +kernel
theorem eX23_leavesOfItem_23 : decode cX23_leavesOfItem 23 = .ok (.getfield 175, 3) := by decide +kernel
theorem eX23_leavesOfItem_26 : decode cX23_leavesOfItem 26 = .ok (.iload_n 2, 1) := by decide +kernel
theorem eX23_leavesOfItem_27 : decode cX23_leavesOfItem 27 = .ok (.aaload, 1) := by decide +kernel
theorem eX23_leavesOfItem_28 : decode cX23_leavesOfItem 28 = .ok (.getfield 386, 3) := by decide +kernel
theorem eX23_leavesOfItem_31 : decode cX23_leavesOfItem 31 = .ok (.iconst 3, 1) := by decide +kernel
theorem eX23_leavesOfItem_32 : decode cX23_leavesOfItem 32 = .ok (.if_icmp .ne 24, 3) := by decide +kernel
theorem eX23_leavesOfItem_35 : decode cX23_leavesOfItem 35 = .ok (.aload_n 0, 1) := by decide +kernel
theorem eX23_leavesOfItem_36 : decode cX23_leavesOfItem 36 = .ok (.aload_n 0, 1) := by decide +kernel
theorem eX23_leavesOfItem_37 : decode cX23_leavesOfItem 37 = .ok (.getfield 232, 3) := by decide +kernel
theorem eX23_leavesOfItem_40 : decode cX23_leavesOfItem 40 = .ok (.aload_n 1, 1) := by decide +kernel
theorem eX23_leavesOfItem_41 : decode cX23_leavesOfItem 41 = .ok (.getfield 175, 3) := by decide +kernel
theorem eX23_leavesOfItem_44 : decode cX23_leavesOfItem 44 = .ok (.iload_n 2, 1) := by decide +kernel
theorem eX23_leavesOfItem_45 : decode cX23_leavesOfItem 45 = .ok (.aaload, 1) := by decide +kernel
theorem eX23_leavesOfItem_46 : decode cX23_leavesOfItem 46 = .ok (.getfield 387, 3) := by decide +kernel
theorem eX23_leavesOfItem_49 : decode cX23_leavesOfItem 49 = .ok (.aaload, 1) := by decide +kernel
theorem eX23_leavesOfItem_50 : decode cX23_leavesOfItem 50 = .ok (.invokevirtual 456, 3) := by decide +kernel
theorem eX23_leavesOfItem_53 : decode cX23_leavesOfItem 53 = .ok (.goto 4, 3) := by decide +kernel
theorem eX23_leavesOfItem_56 : decode cX23_leavesOfItem 56 = .ok (.iconst 1, 1) := by decide +kernel
theorem eX23_leavesOfItem_57 : decode cX23_leavesOfItem 57 = .ok (.iadd, 1) := by decide +kernel
theorem eX23_leavesOfItem_58 : decode cX23_leavesOfItem 58 = .ok (.putfield 453, 3) := by decide +kernel
theorem eX23_leavesOfItem_61 : decode cX23_leavesOfItem 61 = .ok (.iinc 2 1, 3) := by decide +kernel
theorem eX23_leavesOfItem_64 : decode cX23_leavesOfItem 64 = .ok (.goto (-55), 3) := by decide +kernel
theorem eX23_leavesOfItem_67 : decode cX23_leavesOfItem 67 = .ok (.aload_n 1, 1) := by decide +kernel
theorem eX23_leavesOfItem_68 : decode cX23_leavesOfItem 68 = .ok (.getfield 453, 3) := by decide +kernel
theorem eX23_leavesOfItem_71 : decode cX23_leavesOfItem 71 = .ok (.ireturn, 1) := by decide +kernel
theorem eX23_leaves_0 : decode cX23_leaves 0 = .ok (.iconst 0, 1) := by decide +kernel
theorem eX23_leaves_1 : decode cX23_leaves 1 = .ok (.istore_n 1, 1) := by decide +kernel
theorem eX23_leaves_2 : decode cX23_leaves 2 = .ok (.iload_n 1, 1) := by decide +kernel
theorem eX23_leaves_3 : decode cX23_leaves 3 = .ok (.aload_n 0, 1) := by decide +kernel
theorem eX23_leaves_4 : decode cX23_leaves 4 = .ok (.getfield 221, 3) := by decide +kernel
theorem eX23_leaves_7 : decode cX23_leaves 7 = .ok (.if_icmp .ge 34, 3) := by decide +kernel
theorem eX23_leaves_10 : decode cX23_leaves 10 = .ok (.aload_n 0, 1) := by decide +kernel
theorem eX23_leaves_11 : decode cX23_leaves 11 = .ok (.getfield 232, 3) := by decide +kernel
theorem eX23_leaves_14 : decode cX23_leaves 14 = .ok (.iload_n 1, 1) := by decide +kernel
theorem eX23_leaves_15 : decode cX23_leaves 15 = .ok (.aaload, 1) := by decide +kernel
theorem eX23_leaves_16 : decode cX23_leaves 16 = .ok (.getfield 174, 3) := by decide +kernel
theorem eX23_leaves_19 : decode cX23_leaves 19 = .ok (.bipush 10, 2) := by decide +kernel
theorem eX23_leaves_21 : decode cX23_leaves 21 = .ok (.if_icmp .ne 14, 3) := by decide +kernel
theorem eX23_leaves_24 : decode cX23_leaves 24 = .ok (.aload_n 0, 1) := by decide +kernel
theorem eX23_leaves_25 : decode cX23_leaves 25 = .ok (.aload_n 0, 1) := by decide +kernel
theorem eX23_leaves_26 : decode cX23_leaves 26 = .ok (.getfield 232, 3) := by decide +kernel
theorem eX23_leaves_29 : decode cX23_leaves 29 = .ok (.iload_n 1, 1) := by decide +kernel
theorem eX23_leaves_30 : decode cX23_leaves 30 = .ok (.aaload, 1) := by decide +kernel
theorem eX23_leaves_31 : decode cX23_leaves 31 = .ok (.invokevirtual 456, 3) := by decide +kernel
theorem eX23_leaves_34 : decode cX23_leaves 34 = .ok (.pop, 1) := by decide +kernel
theorem eX23_leaves_35 : decode cX23_leaves 35 = .ok (.iinc 1 1, 3) := by decide +kernel
theorem eX23_leaves_38 : decode cX23_leaves 38 = .ok (.goto (-36), 3) := by decide +kernel
theorem eX23_leaves_41 : decode cX23_leaves 41 = .ok (.return_, 1) := by decide +kernel
theorem eX23_findMain_0 : decode cX23_findMain 0 = .ok (.aload_n 0, 1) := by decide +kernel
theorem eX23_findMain_1 : decode cX23_findMain 1 = .ok (.iconst (-1), 1) := by decide +kernel
theorem eX23_findMain_2 : decode cX23_findMain 2 = .ok (.putfield 459, 3) := by decide +kernel
theorem eX23_findMain_5 : decode cX23_findMain 5 = .ok (.iconst 0, 1) := by decide +kernel
theorem eX23_findMain_6 : decode cX23_findMain 6 = .ok (.istore_n 1, 1) := by decide +kernel
theorem eX23_findMain_7 : decode cX23_findMain 7 = .ok (.iload_n 1, 1) := by decide +kernel
theorem eX23_findMain_8 : decode cX23_findMain 8 = .ok (.aload_n 0, 1) := by decide +kernel
theorem eX23_findMain_9 : decode cX23_findMain 9 = .ok (.getfield 221, 3) := by decide +kernel
theorem eX23_findMain_12 : decode cX23_findMain 12 = .ok (.if_icmp .ge 44, 3) := by decide +kernel
theorem eX23_findMain_15 : decode cX23_findMain 15 = .ok (.aload_n 0, 1) := by decide +kernel
theorem eX23_findMain_16 : decode cX23_findMain 16 = .ok (.getfield 232, 3) := by decide +kernel
theorem eX23_findMain_19 : decode cX23_findMain 19 = .ok (.iload_n 1, 1) := by decide +kernel
theorem eX23_findMain_20 : decode cX23_findMain 20 = .ok (.aaload, 1) := by decide +kernel
theorem eX23_findMain_21 : decode cX23_findMain 21 = .ok (.getfield 174, 3) := by decide +kernel
theorem eX23_findMain_24 : decode cX23_findMain 24 = .ok (.bipush 12, 2) := by decide +kernel
theorem eX23_findMain_26 : decode cX23_findMain 26 = .ok (.if_icmp .ne 24, 3) := by decide +kernel
theorem eX23_findMain_29 : decode cX23_findMain 29 = .ok (.aload_n 0, 1) := by decide +kernel
theorem eX23_findMain_30 : decode cX23_findMain 30 = .ok (.aload_n 0, 1) := by decide +kernel
theorem eX23_findMain_31 : decode cX23_findMain 31 = .ok (.getfield 232, 3) := by decide +kernel
theorem eX23_findMain_34 : decode cX23_findMain 34 = .ok (.iload_n 1, 1) := by decide +kernel
theorem eX23_findMain_35 : decode cX23_findMain 35 = .ok (.aaload, 1) := by decide +kernel
theorem eX23_findMain_36 : decode cX23_findMain 36 = .ok (.getfield 176, 3) := by decide +kernel
theorem eX23_findMain_39 : decode cX23_findMain 39 = .ok (.invokevirtual 462, 3) := by decide +kernel
theorem eX23_findMain_42 : decode cX23_findMain 42 = .ok (.ifCond .eq 8, 3) := by decide +kernel
theorem eX23_findMain_45 : decode cX23_findMain 45 = .ok (.aload_n 0, 1) := by decide +kernel
theorem eX23_findMain_46 : decode cX23_findMain 46 = .ok (.iload_n 1, 1) := by decide +kernel
theorem eX23_findMain_47 : decode cX23_findMain 47 = .ok (.putfield 459, 3) := by decide +kernel
theorem eX23_findMain_50 : decode cX23_findMain 50 = .ok (.iinc 1 1, 3) := by decide +kernel
theorem eX23_findMain_53 : decode cX23_findMain 53 = .ok (.goto (-46), 3) := by decide +kernel
theorem eX23_findMain_56 : decode cX23_findMain 56 = .ok (.aload_n 0, 1) := by decide +kernel
theorem eX23_findMain_57 : decode cX23_findMain 57 = .ok (.getfield 459, 3) := by decide +kernel
theorem eX23_findMain_60 : decode cX23_findMain 60 = .ok (.ifCond .ge 17, 3) := by decide +kernel
theorem eX23_findMain_63 : decode cX23_findMain 63 = .ok (.aload_n 0, 1) := by decide +kernel
theorem eX23_findMain_64 : decode cX23_findMain 64 = .ok (.iconst 3, 1) := by decide +kernel
theorem eX23_findMain_65 : decode cX23_findMain 65 = .ok (.aload_n 0, 1) := by decide +kernel
theorem eX23_findMain_66 : decode cX23_findMain 66 = .ok (.getfield 28, 3) := by decide +kernel
theorem eX23_findMain_69 : decode cX23_findMain 69 = .ok (.iconst 1, 1) := by decide +kernel
theorem eX23_findMain_70 : decode cX23_findMain 70 = .ok (.isub, 1) := by decide +kernel
theorem eX23_findMain_71 : decode cX23_findMain 71 = .ok (.invokevirtual 96, 3) := by decide +kernel
theorem eX23_findMain_74 : decode cX23_findMain 74 = .ok (.goto 70, 3) := by decide +kernel
theorem eX23_findMain_77 : decode cX23_findMain 77 = .ok (.aload_n 0, 1) := by decide +kernel
theorem eX23_findMain_78 : decode cX23_findMain 78 = .ok (.getfield 232, 3) := by decide +kernel
theorem eX23_findMain_81 : decode cX23_findMain 81 = .ok (.aload_n 0, 1) := by decide +kernel
theorem eX23_findMain_82 : decode cX23_findMain 82 = .ok (.getfield 459, 3) := by decide +kernel
theorem eX23_findMain_85 : decode cX23_findMain 85 = .ok (.aaload, 1) := by decide +kernel
theorem eX23_findMain_86 : decode cX23_findMain 86 = .ok (.getfield 139, 3) := by decide +kernel
theorem eX23_findMain_89 : decode cX23_findMain 89 = .ok (.ifCond .gt 38, 3) := by decide +kernel
theorem eX23_findMain_92 : decode cX23_findMain 92 = .ok (.aload_n 0, 1) := by decide +kernel
theorem eX23_findMain_93 : decode cX23_findMain 93 = .ok (.getfield 232, 3) := by decide +kernel
theorem eX23_findMain_96 : decode cX23_findMain 96 = .ok (.aload_n 0, 1) := by decide +kernel
theorem eX23_findMain_97 : decode cX23_findMain 97 = .ok (.getfield 459, 3) := by decide +kernel
theorem eX23_findMain_100 : decode cX23_findMain 100 = .ok (.aaload, 1) := by decide +kernel
theorem eX23_findMain_101 : decode cX23_findMain 101 = .ok (.getfield 184, 3) := by decide +kernel
theorem eX23_findMain_104 : decode cX23_findMain 104 = .ok (.ifCond .gt 23, 3) := by decide +kernel
theorem eX23_findMain_107 : decode cX23_findMain 107 = .ok (.aload_n 0, 1) := by decide +kernel
theorem eX23_findMain_108 : decode cX23_findMain 108 = .ok (.getfield 232, 3) := by decide +kernel
theorem eX23_findMain_111 : decode cX23_findMain 111 = .ok (.aload_n 0, 1) := by decide +kernel
theorem eX23_findMain_112 : decode cX23_findMain 112 = .ok (.getfield 459, 3) := by decide +kernel
theorem eX23_findMain_115 : decode cX23_findMain 115 = .ok (.aaload, 1) := by decide +kernel
theorem eX23_findMain_116 : decode cX23_findMain 116 = .ok (.getfield 422, 3) := by decide +kernel
theorem eX23_findMain_119 : decode cX23_findMain 119 = .ok (.getfield 386, 3) := by decide +kernel
theorem eX23_findMain_122 : decode cX23_findMain 122 = .ok (.bipush 8, 2) := by decide +kernel
theorem eX23_findMain_124 : decode cX23_findMain 124 = .ok (.if_icmp .eq 20, 3) := by decide +kernel
theorem eX23_findMain_127 : decode cX23_findMain 127 = .ok (.aload_n 0, 1) := by decide +kernel
theorem eX23_findMain_128 : decode cX23_findMain 128 = .ok (.iconst 4, 1) := by decide +kernel
theorem eX23_findMain_129 : decode cX23_findMain 129 = .ok (.aload_n 0, 1) := by decide +kernel
theorem eX23_findMain_130 : decode cX23_findMain 130 = .ok (.getfield 232, 3) := by decide +kernel
theorem eX23_findMain_133 : decode cX23_findMain 133 = .ok (.aload_n 0, 1) := by decide +kernel
theorem eX23_findMain_134 : decode cX23_findMain 134 = .ok (.getfield 459, 3) := by decide +kernel
theorem eX23_findMain_137 : decode cX23_findMain 137 = .ok (.aaload, 1) := by decide +kernel
theorem eX23_findMain_138 : decode cX23_findMain 138 = .ok (.getfield 176, 3) := by decide +kernel
theorem eX23_findMain_141 : decode cX23_findMain 141 = .ok (.invokevirtual 96, 3) := by decide +kernel
theorem eX23_findMain_144 : decode cX23_findMain 144 = .ok (.return_, 1) := by decide +kernel
theorem eX21_init_0 : decode cX21_init 0 = .ok (.aload_n 0, 1) := by decide +kernel
theorem eX21_init_1 : decode cX21_init 1 = .ok (.invokespecial 1, 3) := by decide +kernel
theorem eX21_init_4 : decode cX21_init 4 = .ok (.return_, 1) := by decide +kernel
theorem eX23_declare_0 : decode cX23_declare 0 = .ok (.new 192, 3) := by decide +kernel
theorem eX23_declare_3 : decode cX23_declare 3 = .ok (.dup, 1) := by decide +kernel
theorem eX23_declare_4 : decode cX23_declare 4 = .ok (.invokespecial 465, 3) := by decide +kernel
theorem eX23_declare_7 : decode cX23_declare 7 = .ok (.astore 4, 2) := by decide +kernel
theorem eX23_declare_9 : decode cX23_declare 9 = .ok (.aload 4, 2) := by decide +kernel
theorem eX23_declare_11 : decode cX23_declare 11 = .ok (.aload_n 0, 1) := by decide +kernel
theorem eX23_declare_12 : decode cX23_declare 12 = .ok (.getfield 466, 3) := by decide +kernel
theorem eX23_declare_15 : decode cX23_declare 15 = .ok (.putfield 469, 3) := by decide +kernel
theorem eX23_declare_18 : decode cX23_declare 18 = .ok (.aload 4, 2) := by decide +kernel
theorem eX23_declare_20 : decode cX23_declare 20 = .ok (.iload_n 1, 1) := by decide +kernel
theorem eX23_declare_21 : decode cX23_declare 21 = .ok (.putfield 470, 3) := by decide +kernel
theorem eX23_declare_24 : decode cX23_declare 24 = .ok (.aload 4, 2) := by decide +kernel
theorem eX23_declare_26 : decode cX23_declare 26 = .ok (.aload_n 2, 1) := by decide +kernel
theorem eX23_declare_27 : decode cX23_declare 27 = .ok (.putfield 471, 3) := by decide +kernel
theorem eX23_declare_30 : decode cX23_declare 30 = .ok (.aload 4, 2) := by decide +kernel
theorem eX23_declare_32 : decode cX23_declare 32 = .ok (.iload_n 3, 1) := by decide +kernel
theorem eX23_declare_33 : decode cX23_declare 33 = .ok (.putfield 473, 3) := by decide +kernel
theorem eX23_declare_36 : decode cX23_declare 36 = .ok (.aload_n 0, 1) := by decide +kernel
theorem eX23_declare_37 : decode cX23_declare 37 = .ok (.dup, 1) := by decide +kernel
theorem eX23_declare_38 : decode cX23_declare 38 = .ok (.getfield 466, 3) := by decide +kernel
theorem eX23_declare_41 : decode cX23_declare 41 = .ok (.iconst 1, 1) := by decide +kernel
theorem eX23_declare_42 : decode cX23_declare 42 = .ok (.iadd, 1) := by decide +kernel
theorem eX23_declare_43 : decode cX23_declare 43 = .ok (.putfield 466, 3) := by decide +kernel
theorem eX23_declare_46 : decode cX23_declare 46 = .ok (.aload_n 0, 1) := by decide +kernel
theorem eX23_declare_47 : decode cX23_declare 47 = .ok (.getfield 474, 3) := by decide +kernel
theorem eX23_declare_50 : decode cX23_declare 50 = .ok (.aload_n 0, 1) := by decide +kernel
theorem eX23_declare_51 : decode cX23_declare 51 = .ok (.getfield 477, 3) := by decide +kernel
theorem eX23_declare_54 : decode cX23_declare 54 = .ok (.aload 4, 2) := by decide +kernel
theorem eX23_declare_56 : decode cX23_declare 56 = .ok (.aastore, 1) := by decide +kernel
theorem eX23_declare_57 : decode cX23_declare 57 = .ok (.aload_n 0, 1) := by decide +kernel
theorem eX23_declare_58 : decode cX23_declare 58 = .ok (.dup, 1) := by decide +kernel
theorem eX23_declare_59 : decode cX23_declare 59 = .ok (.getfield 477, 3) := by decide +kernel
theorem eX23_declare_62 : decode cX23_declare 62 = .ok (.iconst 1, 1) := by decide +kernel
theorem eX23_declare_63 : decode cX23_declare 63 = .ok (.iadd, 1) := by decide +kernel
theorem eX23_declare_64 : decode cX23_declare 64 = .ok (.putfield 477, 3) := by decide +kernel
theorem eX23_declare_67 : decode cX23_declare 67 = .ok (.aload 4, 2) := by decide +kernel
theorem eX23_declare_69 : decode cX23_declare 69 = .ok (.areturn, 1) := by decide +kernel
theorem eX23_bare_0 : decode cX23_bare 0 = .ok (.aload_n 0, 1) := by decide +kernel
theorem eX23_bare_1 : decode cX23_bare 1 = .ok (.astore_n 1, 1) := by decide +kernel
theorem eX23_bare_2 : decode cX23_bare 2 = .ok (.aload_n 1, 1) := by decide +kernel
theorem eX23_bare_3 : decode cX23_bare 3 = .ok (.getfield 330, 3) := by decide +kernel
theorem eX23_bare_6 : decode cX23_bare 6 = .ok (.bipush 7, 2) := by decide +kernel
theorem eX23_bare_8 : decode cX23_bare 8 = .ok (.if_icmp .ne 11, 3) := by decide +kernel
theorem eX23_bare_11 : decode cX23_bare 11 = .ok (.aload_n 1, 1) := by decide +kernel
theorem eX23_bare_12 : decode cX23_bare 12 = .ok (.getfield 331, 3) := by decide +kernel
theorem eX23_bare_15 : decode cX23_bare 15 = .ok (.astore_n 1, 1) := by decide +kernel
theorem eX23_bare_16 : decode cX23_bare 16 = .ok (.goto (-14), 3) := by decide +kernel
theorem eX23_bare_19 : decode cX23_bare 19 = .ok (.aload_n 1, 1) := by decide +kernel
theorem eX23_bare_20 : decode cX23_bare 20 = .ok (.areturn, 1) := by decide +kernel
theorem eX23_depth_0 : decode cX23_depth 0 = .ok (.iconst 0, 1) := by decide +kernel
theorem eX23_depth_1 : decode cX23_depth 1 = .ok (.istore_n 1, 1) := by decide +kernel
theorem eX23_depth_2 : decode cX23_depth 2 = .ok (.aload_n 0, 1) := by decide +kernel
theorem eX23_depth_3 : decode cX23_depth 3 = .ok (.invokestatic 480, 3) := by decide +kernel
theorem eX23_depth_6 : decode cX23_depth 6 = .ok (.astore_n 2, 1) := by decide +kernel
theorem eX23_depth_7 : decode cX23_depth 7 = .ok (.aload_n 2, 1) := by decide +kernel
theorem eX23_depth_8 : decode cX23_depth 8 = .ok (.getfield 330, 3) := by decide +kernel
theorem eX23_depth_11 : decode cX23_depth 11 = .ok (.bipush 14, 2) := by decide +kernel
theorem eX23_depth_13 : decode cX23_depth 13 = .ok (.if_icmp .eq 12, 3) := by decide +kernel
theorem eX23_depth_16 : decode cX23_depth 16 = .ok (.aload_n 2, 1) := by decide +kernel
theorem eX23_depth_17 : decode cX23_depth 17 = .ok (.getfield 330, 3) := by decide +kernel
theorem eX23_depth_20 : decode cX23_depth 20 = .ok (.bipush 11, 2) := by decide +kernel
theorem eX23_depth_22 : decode cX23_depth 22 = .ok (.if_icmp .ne 17, 3) := by decide +kernel
theorem eX23_depth_25 : decode cX23_depth 25 = .ok (.iinc 1 1, 3) := by decide +kernel
theorem eX23_depth_28 : decode cX23_depth 28 = .ok (.aload_n 2, 1) := by decide +kernel
theorem eX23_depth_29 : decode cX23_depth 29 = .ok (.getfield 331, 3) := by decide +kernel
theorem eX23_depth_32 : decode cX23_depth 32 = .ok (.invokestatic 480, 3) := by decide +kernel
theorem eX23_depth_35 : decode cX23_depth 35 = .ok (.astore_n 2, 1) := by decide +kernel
theorem eX23_depth_36 : decode cX23_depth 36 = .ok (.goto (-29), 3) := by decide +kernel
theorem eX23_depth_39 : decode cX23_depth 39 = .ok (.iload_n 1, 1) := by decide +kernel
theorem eX23_depth_40 : decode cX23_depth 40 = .ok (.ireturn, 1) := by decide +kernel
theorem eX23_told_0 : decode cX23_told 0 = .ok (.aload_n 1, 1) := by decide +kernel
theorem eX23_told_1 : decode cX23_told 1 = .ok (.aload_n 2, 1) := by decide +kernel
theorem eX23_told_2 : decode cX23_told 2 = .ok (.putfield 484, 3) := by decide +kernel
theorem eX23_told_5 : decode cX23_told 5 = .ok (.aload_n 2, 1) := by decide +kernel
theorem eX23_told_6 : decode cX23_told 6 = .ok (.areturn, 1) := by decide +kernel
theorem eX23_wrong_0 : decode cX23_wrong 0 = .ok (.aload_n 0, 1) := by decide +kernel
theorem eX23_wrong_1 : decode cX23_wrong 1 = .ok (.iload_n 2, 1) := by decide +kernel
theorem eX23_wrong_2 : decode cX23_wrong 2 = .ok (.iload_n 3, 1) := by decide +kernel
theorem eX23_wrong_3 : decode cX23_wrong 3 = .ok (.invokevirtual 96, 3) := by decide +kernel
theorem eX23_wrong_6 : decode cX23_wrong 6 = .ok (.aload_n 0, 1) := by decide +kernel
theorem eX23_wrong_7 : decode cX23_wrong 7 = .ok (.aload_n 1, 1) := by decide +kernel
theorem eX23_wrong_8 : decode cX23_wrong 8 = .ok (.aload_n 0, 1) := by decide +kernel
theorem eX23_wrong_9 : decode cX23_wrong 9 = .ok (.iconst 0, 1) := by decide +kernel
theorem eX23_wrong_10 : decode cX23_wrong 10 = .ok (.invokevirtual 405, 3) := by decide +kernel
theorem eX23_wrong_13 : decode cX23_wrong 13 = .ok (.invokevirtual 485, 3) := by decide +kernel
theorem eX23_wrong_16 : decode cX23_wrong 16 = .ok (.areturn, 1) := by decide +kernel
theorem eX23_member_0 : decode cX23_member 0 = .ok (.aload_n 2, 1) := by decide +kernel
theorem eX23_member_1 : decode cX23_member 1 = .ok (.getfield 386, 3) := by decide +kernel
theorem eX23_member_4 : decode cX23_member 4 = .ok (.iconst 3, 1) := by decide +kernel
theorem eX23_member_5 : decode cX23_member 5 = .ok (.if_icmp .eq 14, 3) := by decide +kernel
theorem eX23_member_8 : decode cX23_member 8 = .ok (.aload_n 0, 1) := by decide +kernel
theorem eX23_member_9 : decode cX23_member 9 = .ok (.aload_n 1, 1) := by decide +kernel
theorem eX23_member_10 : decode cX23_member 10 = .ok (.iconst 4, 1) := by decide +kernel
theorem eX23_member_11 : decode cX23_member 11 = .ok (.aload_n 1, 1) := by decide +kernel
theorem eX23_member_12 : decode cX23_member 12 = .ok (.getfield 362, 3) := by decide +kernel
theorem eX23_member_15 : decode cX23_member 15 = .ok (.invokevirtual 496, 3) := by decide +kernel
theorem eX23_member_18 : decode cX23_member 18 = .ok (.areturn, 1) := by decide +kernel
theorem eX23_member_19 : decode cX23_member 19 = .ok (.aload_n 0, 1) := by decide +kernel
theorem eX23_member_20 : decode cX23_member 20 = .ok (.getfield 232, 3) := by decide +kernel
theorem eX23_member_23 : decode cX23_member 23 = .ok (.aload_n 2, 1) := by decide +kernel
theorem eX23_member_24 : decode cX23_member 24 = .ok (.getfield 387, 3) := by decide +kernel
theorem eX23_member_27 : decode cX23_member 27 = .ok (.aaload, 1) := by decide +kernel
theorem eX23_member_28 : decode cX23_member 28 = .ok (.astore_n 3, 1) := by decide +kernel
theorem eX23_member_29 : decode cX23_member 29 = .ok (.iconst 0, 1) := by decide +kernel
theorem eX23_member_30 : decode cX23_member 30 = .ok (.istore 4, 2) := by decide +kernel
theorem eX23_member_32 : decode cX23_member 32 = .ok (.iload 4, 2) := by decide +kernel
theorem eX23_member_34 : decode cX23_member 34 = .ok (.aload_n 3, 1) := by decide +kernel
theorem eX23_member_35 : decode cX23_member 35 = .ok (.getfield 139, 3) := by decide +kernel
theorem eX23_member_38 : decode cX23_member 38 = .ok (.if_icmp .ge 46, 3) := by decide +kernel
theorem eX23_member_41 : decode cX23_member 41 = .ok (.aload_n 0, 1) := by decide +kernel
theorem eX23_member_42 : decode cX23_member 42 = .ok (.aload_n 3, 1) := by decide +kernel
theorem eX23_member_43 : decode cX23_member 43 = .ok (.getfield 147, 3) := by decide +kernel
theorem eX23_member_46 : decode cX23_member 46 = .ok (.iload 4, 2) := by decide +kernel
theorem eX23_member_48 : decode cX23_member 48 = .ok (.iaload, 1) := by decide +kernel
theorem eX23_member_49 : decode cX23_member 49 = .ok (.aload_n 1, 1) := by decide +kernel
theorem eX23_member_50 : decode cX23_member 50 = .ok (.getfield 362, 3) := by decide +kernel
theorem eX23_member_53 : decode cX23_member 53 = .ok (.invokevirtual 401, 3) := by decide +kernel
theorem eX23_member_56 : decode cX23_member 56 = .ok (.ifCond .eq 22, 3) := by decide +kernel
theorem eX23_member_59 : decode cX23_member 59 = .ok (.aload_n 1, 1) := by decide +kernel
theorem eX23_member_60 : decode cX23_member 60 = .ok (.iload 4, 2) := by decide +kernel
theorem eX23_member_62 : decode cX23_member 62 = .ok (.putfield 510, 3) := by decide +kernel
theorem eX23_member_65 : decode cX23_member 65 = .ok (.aload_n 0, 1) := by decide +kernel
theorem eX23_member_66 : decode cX23_member 66 = .ok (.aload_n 1, 1) := by decide +kernel
theorem eX23_member_67 : decode cX23_member 67 = .ok (.aload_n 3, 1) := by decide +kernel
theorem eX23_member_68 : decode cX23_member 68 = .ok (.getfield 175, 3) := by decide +kernel
theorem eX23_member_71 : decode cX23_member 71 = .ok (.iload 4, 2) := by decide +kernel
theorem eX23_member_73 : decode cX23_member 73 = .ok (.aaload, 1) := by decide +kernel
theorem eX23_member_74 : decode cX23_member 74 = .ok (.invokevirtual 485, 3) := by decide +kernel
theorem eX23_member_77 : decode cX23_member 77 = .ok (.areturn, 1) := by decide +kernel
theorem eX23_member_78 : decode cX23_member 78 = .ok (.iinc 4 1, 3) := by decide +kernel
theorem eX23_member_81 : decode cX23_member 81 = .ok (.goto (-49), 3) := by decide +kernel
theorem eX23_member_84 : decode cX23_member 84 = .ok (.aload_n 0, 1) := by decide +kernel
theorem eX23_member_85 : decode cX23_member 85 = .ok (.aload_n 1, 1) := by decide +kernel
theorem eX23_member_86 : decode cX23_member 86 = .ok (.iconst 3, 1) := by decide +kernel
theorem eX23_member_87 : decode cX23_member 87 = .ok (.aload_n 1, 1) := by decide +kernel
theorem eX23_member_88 : decode cX23_member 88 = .ok (.getfield 362, 3) := by decide +kernel
theorem eX23_member_91 : decode cX23_member 91 = .ok (.invokevirtual 496, 3) := by decide +kernel
theorem eX23_member_94 : decode cX23_member 94 = .ok (.areturn, 1) := by decide +kernel
theorem eX23_place_0 : decode cX23_place 0 = .ok (.aload_n 0, 1) := by decide +kernel
theorem eX23_place_1 : decode cX23_place 1 = .ok (.invokevirtual 89, 3) := by decide +kernel
theorem eX23_place_4 : decode cX23_place 4 = .ok (.ifCond .ne 14, 3) := by decide +kernel
theorem eX23_place_7 : decode cX23_place 7 = .ok (.aload_n 0, 1) := by decide +kernel
theorem eX23_place_8 : decode cX23_place 8 = .ok (.aload_n 1, 1) := by decide +kernel
theorem eX23_place_9 : decode cX23_place 9 = .ok (.aload_n 0, 1) := by decide +kernel
theorem eX23_place_10 : decode cX23_place 10 = .ok (.iconst 0, 1) := by decide +kernel
theorem eX23_place_11 : decode cX23_place 11 = .ok (.invokevirtual 405, 3) := by decide +kernel
theorem eX23_place_14 : decode cX23_place 14 = .ok (.invokevirtual 485, 3) := by decide +kernel
theorem eX23_place_17 : decode cX23_place 17 = .ok (.areturn, 1) := by decide +kernel
theorem eX23_place_18 : decode cX23_place 18 = .ok (.aload_n 1, 1) := by decide +kernel
theorem eX23_place_19 : decode cX23_place 19 = .ok (.getfield 330, 3) := by decide +kernel
theorem eX23_place_22 : decode cX23_place 22 = .ok (.bipush 7, 2) := by decide +kernel
theorem eX23_place_24 : decode cX23_place 24 = .ok (.if_icmp .ne 17, 3) := by decide +kernel
theorem eX23_place_27 : decode cX23_place 27 = .ok (.aload_n 0, 1) := by decide +kernel
theorem eX23_place_28 : decode cX23_place 28 = .ok (.aload_n 1, 1) := by decide +kernel
theorem eX23_place_29 : decode cX23_place 29 = .ok (.aload_n 0, 1) := by decide +kernel
theorem eX23_place_30 : decode cX23_place 30 = .ok (.aload_n 1, 1) := by decide +kernel
theorem eX23_place_31 : decode cX23_place 31 = .ok (.getfield 331, 3) := by decide +kernel
theorem eX23_place_34 : decode cX23_place 34 = .ok (.invokevirtual 489, 3) := by decide +kernel
theorem eX23_place_37 : decode cX23_place 37 = .ok (.invokevirtual 485, 3) := by decide +kernel
theorem eX23_place_40 : decode cX23_place 40 = .ok (.areturn, 1) := by decide +kernel
theorem eX23_place_41 : decode cX23_place 41 = .ok (.aload_n 1, 1) := by decide +kernel
theorem eX23_place_42 : decode cX23_place 42 = .ok (.getfield 330, 3) := by decide +kernel
theorem eX23_place_45 : decode cX23_place 45 = .ok (.iconst 2, 1) := by decide +kernel
theorem eX23_place_46 : decode cX23_place 46 = .ok (.if_icmp .ne 108, 3) := by decide +kernel
theorem eX23_place_49 : decode cX23_place 49 = .ok (.aload_n 1, 1) := by decide +kernel
theorem eX23_place_50 : decode cX23_place 50 = .ok (.aconst_null, 1) := by decide +kernel
theorem eX23_place_51 : decode cX23_place 51 = .ok (.putfield 492, 3) := by decide +kernel
theorem eX23_place_54 : decode cX23_place 54 = .ok (.iconst 0, 1) := by decide +kernel
theorem eX23_place_55 : decode cX23_place 55 = .ok (.istore_n 2, 1) := by decide +kernel
theorem eX23_place_56 : decode cX23_place 56 = .ok (.iload_n 2, 1) := by decide +kernel
theorem eX23_place_57 : decode cX23_place 57 = .ok (.aload_n 0, 1) := by decide +kernel
theorem eX23_place_58 : decode cX23_place 58 = .ok (.getfield 477, 3) := by decide +kernel
theorem eX23_place_61 : decode cX23_place 61 = .ok (.if_icmp .ge 39, 3) := by decide +kernel
theorem eX23_place_64 : decode cX23_place 64 = .ok (.aload_n 0, 1) := by decide +kernel
theorem eX23_place_65 : decode cX23_place 65 = .ok (.aload_n 0, 1) := by decide +kernel
theorem eX23_place_66 : decode cX23_place 66 = .ok (.getfield 474, 3) := by decide +kernel
theorem eX23_place_69 : decode cX23_place 69 = .ok (.iload_n 2, 1) := by decide +kernel
theorem eX23_place_70 : decode cX23_place 70 = .ok (.aaload, 1) := by decide +kernel
theorem eX23_place_71 : decode cX23_place 71 = .ok (.getfield 470, 3) := by decide +kernel
theorem eX23_place_74 : decode cX23_place 74 = .ok (.aload_n 1, 1) := by decide +kernel
theorem eX23_place_75 : decode cX23_place 75 = .ok (.getfield 362, 3) := by decide +kernel
theorem eX23_place_78 : decode cX23_place 78 = .ok (.invokevirtual 401, 3) := by decide +kernel
theorem eX23_place_81 : decode cX23_place 81 = .ok (.ifCond .eq 13, 3) := by decide +kernel
theorem eX23_place_84 : decode cX23_place 84 = .ok (.aload_n 1, 1) := by decide +kernel
theorem eX23_place_85 : decode cX23_place 85 = .ok (.aload_n 0, 1) := by decide +kernel
theorem eX23_place_86 : decode cX23_place 86 = .ok (.getfield 474, 3) := by decide +kernel
theorem eX23_place_89 : decode cX23_place 89 = .ok (.iload_n 2, 1) := by decide +kernel
theorem eX23_place_90 : decode cX23_place 90 = .ok (.aaload, 1) := by decide +kernel
theorem eX23_place_91 : decode cX23_place 91 = .ok (.putfield 492, 3) := by decide +kernel
theorem eX23_place_94 : decode cX23_place 94 = .ok (.iinc 2 1, 3) := by decide +kernel
theorem eX23_place_97 : decode cX23_place 97 = .ok (.goto (-41), 3) := by decide +kernel
theorem eX23_place_100 : decode cX23_place 100 = .ok (.aload_n 1, 1) := by decide +kernel
theorem eX23_place_101 : decode cX23_place 101 = .ok (.getfield 492, 3) := by decide +kernel
theorem eX23_place_104 : decode cX23_place 104 = .ok (.ifnonnull 14, 3) := by decide +kernel
theorem eX23_place_107 : decode cX23_place 107 = .ok (.aload_n 0, 1) := by decide +kernel
theorem eX23_place_108 : decode cX23_place 108 = .ok (.aload_n 1, 1) := by decide +kernel
theorem eX23_place_109 : decode cX23_place 109 = .ok (.iconst 3, 1) := by decide +kernel
theorem eX23_place_110 : decode cX23_place 110 = .ok (.aload_n 1, 1) := by decide +kernel
theorem eX23_place_111 : decode cX23_place 111 = .ok (.getfield 350, 3) := by decide +kernel
theorem eX23_place_114 : decode cX23_place 114 = .ok (.invokevirtual 496, 3) := by decide +kernel
theorem eX23_place_117 : decode cX23_place 117 = .ok (.areturn, 1) := by decide +kernel
theorem eX23_place_118 : decode cX23_place 118 = .ok (.aload_n 1, 1) := by decide +kernel
theorem eX23_place_119 : decode cX23_place 119 = .ok (.getfield 492, 3) := by decide +kernel
theorem eX23_place_122 : decode cX23_place 122 = .ok (.getfield 471, 3) := by decide +kernel
theorem eX23_place_125 : decode cX23_place 125 = .ok (.ifnonnull 16, 3) := by decide +kernel
theorem eX23_place_128 : decode cX23_place 128 = .ok (.aload_n 0, 1) := by decide +kernel
theorem eX23_place_129 : decode cX23_place 129 = .ok (.aload_n 1, 1) := by decide +kernel
theorem eX23_place_130 : decode cX23_place 130 = .ok (.iconst 4, 1) := by decide +kernel
theorem eX23_place_131 : decode cX23_place 131 = .ok (.aload_n 1, 1) := by decide +kernel
theorem eX23_place_132 : decode cX23_place 132 = .ok (.getfield 350, 3) := by decide +kernel
theorem eX23_place_135 : decode cX23_place 135 = .ok (.invokevirtual 496, 3) := by decide +kernel
theorem eX23_place_138 : decode cX23_place 138 = .ok (.goto 15, 3) := by decide +kernel
theorem eX23_place_141 : decode cX23_place 141 = .ok (.aload_n 0, 1) := by decide +kernel
theorem eX23_place_142 : decode cX23_place 142 = .ok (.aload_n 1, 1) := by decide +kernel
theorem eX23_place_143 : decode cX23_place 143 = .ok (.aload_n 1, 1) := by decide +kernel
theorem eX23_place_144 : decode cX23_place 144 = .ok (.getfield 492, 3) := by decide +kernel
theorem eX23_place_147 : decode cX23_place 147 = .ok (.getfield 471, 3) := by decide +kernel
theorem eX23_place_150 : decode cX23_place 150 = .ok (.invokevirtual 485, 3) := by decide +kernel
theorem eX23_place_153 : decode cX23_place 153 = .ok (.areturn, 1) := by decide +kernel
theorem eX23_place_154 : decode cX23_place 154 = .ok (.aload_n 0, 1) := by decide +kernel
theorem eX23_place_155 : decode cX23_place 155 = .ok (.aload_n 1, 1) := by decide +kernel
theorem eX23_place_156 : decode cX23_place 156 = .ok (.getfield 331, 3) := by decide +kernel
theorem eX23_place_159 : decode cX23_place 159 = .ok (.invokevirtual 489, 3) := by decide +kernel
theorem eX23_place_162 : decode cX23_place 162 = .ok (.astore_n 2, 1) := by decide +kernel
theorem eX23_place_163 : decode cX23_place 163 = .ok (.aload_n 0, 1) := by decide +kernel
theorem eX23_place_164 : decode cX23_place 164 = .ok (.invokevirtual 89, 3) := by decide +kernel
theorem eX23_place_167 : decode cX23_place 167 = .ok (.ifCond .ne 10, 3) := by decide +kernel
theorem eX23_place_170 : decode cX23_place 170 = .ok (.aload_n 0, 1) := by decide +kernel
theorem eX23_place_171 : decode cX23_place 171 = .ok (.aload_n 1, 1) := by decide +kernel
theorem eX23_place_172 : decode cX23_place 172 = .ok (.aload_n 2, 1) := by decide +kernel
theorem eX23_place_173 : decode cX23_place 173 = .ok (.invokevirtual 485, 3) := by decide +kernel
theorem eX23_place_176 : decode cX23_place 176 = .ok (.areturn, 1) := by decide +kernel
theorem eX23_place_177 : decode cX23_place 177 = .ok (.aload_n 1, 1) := by decide +kernel
theorem eX23_place_178 : decode cX23_place 178 = .ok (.getfield 330, 3) := by decide +kernel
theorem eX23_place_181 : decode cX23_place 181 = .ok (.bipush 11, 2) := by decide +kernel
theorem eX23_place_183 : decode cX23_place 183 = .ok (.if_icmp .ne 10, 3) := by decide +kernel
theorem eX23_place_186 : decode cX23_place 186 = .ok (.aload_n 1, 1) := by decide +kernel
theorem eX23_place_187 : decode cX23_place 187 = .ok (.getfield 350, 3) := by decide +kernel
theorem eX23_place_190 : decode cX23_place 190 = .ok (.goto 7, 3) := by decide +kernel
theorem eX23_place_193 : decode cX23_place 193 = .ok (.aload_n 1, 1) := by decide +kernel
theorem eX23_place_194 : decode cX23_place 194 = .ok (.getfield 362, 3) := by decide +kernel
theorem eX23_place_197 : decode cX23_place 197 = .ok (.istore_n 3, 1) := by decide +kernel
theorem eX23_place_198 : decode cX23_place 198 = .ok (.aload_n 1, 1) := by decide +kernel
theorem eX23_place_199 : decode cX23_place 199 = .ok (.getfield 330, 3) := by decide +kernel
theorem eX23_place_202 : decode cX23_place 202 = .ok (.bipush 11, 2) := by decide +kernel
theorem eX23_place_204 : decode cX23_place 204 = .ok (.if_icmp .eq 12, 3) := by decide +kernel
theorem eX23_place_207 : decode cX23_place 207 = .ok (.aload_n 0, 1) := by decide +kernel
theorem eX23_place_208 : decode cX23_place 208 = .ok (.aload_n 1, 1) := by decide +kernel
theorem eX23_place_209 : decode cX23_place 209 = .ok (.aload_n 2, 1) := by decide +kernel
theorem eX23_place_210 : decode cX23_place 210 = .ok (.invokevirtual 500, 3) := by decide +kernel
theorem eX23_place_213 : decode cX23_place 213 = .ok (.goto 37, 3) := by decide +kernel
theorem eX23_place_216 : decode cX23_place 216 = .ok (.aload_n 2, 1) := by decide +kernel
theorem eX23_place_217 : decode cX23_place 217 = .ok (.getfield 386, 3) := by decide +kernel
theorem eX23_place_220 : decode cX23_place 220 = .ok (.iconst 5, 1) := by decide +kernel
theorem eX23_place_221 : decode cX23_place 221 = .ok (.if_icmp .eq 10, 3) := by decide +kernel
theorem eX23_place_224 : decode cX23_place 224 = .ok (.aload_n 2, 1) := by decide +kernel
theorem eX23_place_225 : decode cX23_place 225 = .ok (.invokestatic 503, 3) := by decide +kernel
theorem eX23_place_228 : decode cX23_place 228 = .ok (.ifCond .eq 15, 3) := by decide +kernel
theorem eX23_place_231 : decode cX23_place 231 = .ok (.aload_n 0, 1) := by decide +kernel
theorem eX23_place_232 : decode cX23_place 232 = .ok (.aload_n 1, 1) := by decide +kernel
theorem eX23_place_233 : decode cX23_place 233 = .ok (.aload_n 2, 1) := by decide +kernel
theorem eX23_place_234 : decode cX23_place 234 = .ok (.getfield 390, 3) := by decide +kernel
theorem eX23_place_237 : decode cX23_place 237 = .ok (.invokevirtual 485, 3) := by decide +kernel
theorem eX23_place_240 : decode cX23_place 240 = .ok (.goto 10, 3) := by decide +kernel
theorem eX23_place_243 : decode cX23_place 243 = .ok (.aload_n 0, 1) := by decide +kernel
theorem eX23_place_244 : decode cX23_place 244 = .ok (.aload_n 1, 1) := by decide +kernel
theorem eX23_place_245 : decode cX23_place 245 = .ok (.iconst 4, 1) := by decide +kernel
theorem eX23_place_246 : decode cX23_place 246 = .ok (.iload_n 3, 1) := by decide +kernel
theorem eX23_place_247 : decode cX23_place 247 = .ok (.invokevirtual 496, 3) := by decide +kernel
theorem eX23_place_250 : decode cX23_place 250 = .ok (.astore 4, 2) := by decide +kernel
theorem eX23_place_252 : decode cX23_place 252 = .ok (.aload_n 0, 1) := by decide +kernel
theorem eX23_place_253 : decode cX23_place 253 = .ok (.invokevirtual 89, 3) := by decide +kernel
theorem eX23_place_256 : decode cX23_place 256 = .ok (.ifCond .eq 21, 3) := by decide +kernel
theorem eX23_place_259 : decode cX23_place 259 = .ok (.aload_n 1, 1) := by decide +kernel
theorem eX23_place_260 : decode cX23_place 260 = .ok (.invokestatic 506, 3) := by decide +kernel
theorem eX23_place_263 : decode cX23_place 263 = .ok (.iconst 4, 1) := by decide +kernel
theorem eX23_place_264 : decode cX23_place 264 = .ok (.if_icmp .le 13, 3) := by decide +kernel
theorem eX23_place_267 : decode cX23_place 267 = .ok (.aload_n 0, 1) := by decide +kernel
theorem eX23_place_268 : decode cX23_place 268 = .ok (.aload_n 1, 1) := by decide +kernel
theorem eX23_place_269 : decode cX23_place 269 = .ok (.iconst 4, 1) := by decide +kernel
theorem eX23_place_270 : decode cX23_place 270 = .ok (.iload_n 3, 1) := by decide +kernel
theorem eX23_place_271 : decode cX23_place 271 = .ok (.invokevirtual 496, 3) := by decide +kernel
theorem eX23_place_274 : decode cX23_place 274 = .ok (.goto 5, 3) := by decide +kernel
theorem eX23_place_277 : decode cX23_place 277 = .ok (.aload 4, 2) := by decide +kernel
theorem eX23_place_279 : decode cX23_place 279 = .ok (.areturn, 1) := by decide +kernel
theorem eX23_isPart_0 : decode cX23_isPart 0 = .ok (.aload_n 0, 1) := by decide +kernel
theorem eX23_isPart_1 : decode cX23_isPart 1 = .ok (.invokestatic 480, 3) := by decide +kernel
theorem eX23_isPart_4 : decode cX23_isPart 4 = .ok (.astore_n 1, 1) := by decide +kernel
theorem eX23_isPart_5 : decode cX23_isPart 5 = .ok (.aload_n 1, 1) := by decide +kernel
theorem eX23_isPart_6 : decode cX23_isPart 6 = .ok (.getfield 330, 3) := by decide +kernel
theorem eX23_isPart_9 : decode cX23_isPart 9 = .ok (.bipush 14, 2) := by decide +kernel
theorem eX23_isPart_11 : decode cX23_isPart 11 = .ok (.if_icmp .ne 14, 3) := by decide +kernel
theorem eX23_isPart_14 : decode cX23_isPart 14 = .ok (.aload_n 1, 1) := by decide +kernel
theorem eX23_isPart_15 : decode cX23_isPart 15 = .ok (.getfield 331, 3) := by decide +kernel
theorem eX23_isPart_18 : decode cX23_isPart 18 = .ok (.invokestatic 480, 3) := by decide +kernel
theorem eX23_isPart_21 : decode cX23_isPart 21 = .ok (.astore_n 1, 1) := by decide +kernel
theorem eX23_isPart_22 : decode cX23_isPart 22 = .ok (.goto (-17), 3) := by decide +kernel
theorem eX23_isPart_25 : decode cX23_isPart 25 = .ok (.aload_n 1, 1) := by decide +kernel
theorem eX23_isPart_26 : decode cX23_isPart 26 = .ok (.getfield 330, 3) := by decide +kernel
theorem eX23_isPart_29 : decode cX23_isPart 29 = .ok (.iconst 2, 1) := by decide +kernel
theorem eX23_isPart_30 : decode cX23_isPart 30 = .ok (.if_icmp .ne 7, 3) := by decide +kernel
theorem eX23_isPart_33 : decode cX23_isPart 33 = .ok (.iconst 1, 1) := by decide +kernel
theorem eX23_isPart_34 : decode cX23_isPart 34 = .ok (.goto 4, 3) := by decide +kernel
theorem eX23_isPart_37 : decode cX23_isPart 37 = .ok (.iconst 0, 1) := by decide +kernel
theorem eX23_isPart_38 : decode cX23_isPart 38 = .ok (.ireturn, 1) := by decide +kernel
theorem eX23_movable_0 : decode cX23_movable 0 = .ok (.aload_n 0, 1) := by decide +kernel
theorem eX23_movable_1 : decode cX23_movable 1 = .ok (.invokestatic 480, 3) := by decide +kernel
theorem eX23_movable_4 : decode cX23_movable 4 = .ok (.astore_n 1, 1) := by decide +kernel
theorem eX23_movable_5 : decode cX23_movable 5 = .ok (.aload_n 1, 1) := by decide +kernel
theorem eX23_movable_6 : decode cX23_movable 6 = .ok (.invokestatic 511, 3) := by decide +kernel
theorem eX23_movable_9 : decode cX23_movable 9 = .ok (.ifCond .ne 36, 3) := by decide +kernel
theorem eX23_movable_12 : decode cX23_movable 12 = .ok (.aload_n 1, 1) := by decide +kernel
theorem eX23_movable_13 : decode cX23_movable 13 = .ok (.getfield 330, 3) := by decide +kernel
theorem eX23_movable_16 : decode cX23_movable 16 = .ok (.bipush 11, 2) := by decide +kernel
theorem eX23_movable_18 : decode cX23_movable 18 = .ok (.if_icmp .ne 31, 3) := by decide +kernel
theorem eX23_movable_21 : decode cX23_movable 21 = .ok (.aload_n 1, 1) := by decide +kernel
theorem eX23_movable_22 : decode cX23_movable 22 = .ok (.getfield 331, 3) := by decide +kernel
theorem eX23_movable_25 : decode cX23_movable 25 = .ok (.getfield 484, 3) := by decide +kernel
theorem eX23_movable_28 : decode cX23_movable 28 = .ok (.getfield 386, 3) := by decide +kernel
theorem eX23_movable_31 : decode cX23_movable 31 = .ok (.iconst 5, 1) := by decide +kernel
theorem eX23_movable_32 : decode cX23_movable 32 = .ok (.if_icmp .ne 17, 3) := by decide +kernel
theorem eX23_movable_35 : decode cX23_movable 35 = .ok (.aload_n 1, 1) := by decide +kernel
theorem eX23_movable_36 : decode cX23_movable 36 = .ok (.getfield 331, 3) := by decide +kernel
theorem eX23_movable_39 : decode cX23_movable 39 = .ok (.invokestatic 511, 3) := by decide +kernel
theorem eX23_movable_42 : decode cX23_movable 42 = .ok (.ifCond .eq 7, 3) := by decide +kernel
theorem eX23_movable_45 : decode cX23_movable 45 = .ok (.iconst 1, 1) := by decide +kernel
theorem eX23_movable_46 : decode cX23_movable 46 = .ok (.goto 4, 3) := by decide +kernel
theorem eX23_movable_49 : decode cX23_movable 49 = .ok (.iconst 0, 1) := by decide +kernel
theorem eX23_movable_50 : decode cX23_movable 50 = .ok (.ireturn, 1) := by decide +kernel
theorem eX23_mutable_0 : decode cX23_mutable 0 = .ok (.aload_n 1, 1) := by decide +kernel
theorem eX23_mutable_1 : decode cX23_mutable 1 = .ok (.invokestatic 480, 3) := by decide +kernel
theorem eX23_mutable_4 : decode cX23_mutable 4 = .ok (.astore_n 2, 1) := by decide +kernel
theorem eX23_mutable_5 : decode cX23_mutable 5 = .ok (.aload_n 2, 1) := by decide +kernel
theorem eX23_mutable_6 : decode cX23_mutable 6 = .ok (.getfield 330, 3) := by decide +kernel
theorem eX23_mutable_9 : decode cX23_mutable 9 = .ok (.iconst 2, 1) := by decide +kernel
theorem eX23_mutable_10 : decode cX23_mutable 10 = .ok (.if_icmp .ne 11, 3) := by decide +kernel
theorem eX23_mutable_13 : decode cX23_mutable 13 = .ok (.aload_n 2, 1) := by decide +kernel
theorem eX23_mutable_14 : decode cX23_mutable 14 = .ok (.getfield 492, 3) := by decide +kernel
theorem eX23_mutable_17 : decode cX23_mutable 17 = .ok (.getfield 473, 3) := by decide +kernel
theorem eX23_mutable_20 : decode cX23_mutable 20 = .ok (.ireturn, 1) := by decide +kernel
theorem eX23_mutable_21 : decode cX23_mutable 21 = .ok (.aload_n 2, 1) := by decide +kernel
theorem eX23_mutable_22 : decode cX23_mutable 22 = .ok (.getfield 330, 3) := by decide +kernel
theorem eX23_mutable_25 : decode cX23_mutable 25 = .ok (.bipush 14, 2) := by decide +kernel
theorem eX23_mutable_27 : decode cX23_mutable 27 = .ok (.if_icmp .ne 12, 3) := by decide +kernel
theorem eX23_mutable_30 : decode cX23_mutable 30 = .ok (.aload_n 0, 1) := by decide +kernel
theorem eX23_mutable_31 : decode cX23_mutable 31 = .ok (.aload_n 2, 1) := by decide +kernel
theorem eX23_mutable_32 : decode cX23_mutable 32 = .ok (.getfield 331, 3) := by decide +kernel
theorem eX23_mutable_35 : decode cX23_mutable 35 = .ok (.invokevirtual 514, 3) := by decide +kernel
theorem eX23_mutable_38 : decode cX23_mutable 38 = .ok (.ireturn, 1) := by decide +kernel
theorem eX23_mutable_39 : decode cX23_mutable 39 = .ok (.aload_n 2, 1) := by decide +kernel
theorem eX23_mutable_40 : decode cX23_mutable 40 = .ok (.getfield 331, 3) := by decide +kernel
theorem eX23_mutable_43 : decode cX23_mutable 43 = .ok (.getfield 484, 3) := by decide +kernel
theorem eX23_mutable_46 : decode cX23_mutable 46 = .ok (.getfield 386, 3) := by decide +kernel
theorem eX23_mutable_49 : decode cX23_mutable 49 = .ok (.istore_n 3, 1) := by decide +kernel
theorem eX23_mutable_50 : decode cX23_mutable 50 = .ok (.iload_n 3, 1) := by decide +kernel
theorem eX23_mutable_51 : decode cX23_mutable 51 = .ok (.bipush 7, 2) := by decide +kernel
theorem eX23_mutable_53 : decode cX23_mutable 53 = .ok (.if_icmp .eq 19, 3) := by decide +kernel
theorem eX23_mutable_56 : decode cX23_mutable 56 = .ok (.iload_n 3, 1) := by decide +kernel
theorem eX23_mutable_57 : decode cX23_mutable 57 = .ok (.iconst 5, 1) := by decide +kernel
theorem eX23_mutable_58 : decode cX23_mutable 58 = .ok (.if_icmp .ne 18, 3) := by decide +kernel
theorem eX23_mutable_61 : decode cX23_mutable 61 = .ok (.aload_n 0, 1) := by decide +kernel
theorem eX23_mutable_62 : decode cX23_mutable 62 = .ok (.aload_n 2, 1) := by decide +kernel
theorem eX23_mutable_63 : decode cX23_mutable 63 = .ok (.getfield 331, 3) := by decide +kernel
theorem eX23_mutable_66 : decode cX23_mutable 66 = .ok (.invokevirtual 514, 3) := by decide +kernel
theorem eX23_mutable_69 : decode cX23_mutable 69 = .ok (.ifCond .eq 7, 3) := by decide +kernel
theorem eX23_mutable_72 : decode cX23_mutable 72 = .ok (.iconst 1, 1) := by decide +kernel
theorem eX23_mutable_73 : decode cX23_mutable 73 = .ok (.goto 4, 3) := by decide +kernel
theorem eX23_mutable_76 : decode cX23_mutable 76 = .ok (.iconst 0, 1) := by decide +kernel
theorem eX23_mutable_77 : decode cX23_mutable 77 = .ok (.ireturn, 1) := by decide +kernel
theorem eX23_fieldOf_0 : decode cX23_fieldOf 0 = .ok (.iconst 0, 1) := by decide +kernel
theorem eX23_fieldOf_1 : decode cX23_fieldOf 1 = .ok (.istore_n 3, 1) := by decide +kernel
theorem eX23_fieldOf_2 : decode cX23_fieldOf 2 = .ok (.iload_n 3, 1) := by decide +kernel
theorem eX23_fieldOf_3 : decode cX23_fieldOf 3 = .ok (.aload_n 1, 1) := by decide +kernel
theorem eX23_fieldOf_4 : decode cX23_fieldOf 4 = .ok (.getfield 139, 3) := by decide +kernel
theorem eX23_fieldOf_7 : decode cX23_fieldOf 7 = .ok (.if_icmp .ge 25, 3) := by decide +kernel
theorem eX23_fieldOf_10 : decode cX23_fieldOf 10 = .ok (.aload_n 0, 1) := by decide +kernel
theorem eX23_fieldOf_11 : decode cX23_fieldOf 11 = .ok (.aload_n 1, 1) := by decide +kernel
theorem eX23_fieldOf_12 : decode cX23_fieldOf 12 = .ok (.getfield 147, 3) := by decide +kernel
theorem eX23_fieldOf_15 : decode cX23_fieldOf 15 = .ok (.iload_n 3, 1) := by decide +kernel
theorem eX23_fieldOf_16 : decode cX23_fieldOf 16 = .ok (.iaload, 1) := by decide +kernel
theorem eX23_fieldOf_17 : decode cX23_fieldOf 17 = .ok (.iload_n 2, 1) := by decide +kernel
theorem eX23_fieldOf_18 : decode cX23_fieldOf 18 = .ok (.invokevirtual 401, 3) := by decide +kernel
theorem eX23_fieldOf_21 : decode cX23_fieldOf 21 = .ok (.ifCond .eq 5, 3) := by decide +kernel
theorem eX23_fieldOf_24 : decode cX23_fieldOf 24 = .ok (.iload_n 3, 1) := by decide +kernel
theorem eX23_fieldOf_25 : decode cX23_fieldOf 25 = .ok (.ireturn, 1) := by decide +kernel
theorem eX23_fieldOf_26 : decode cX23_fieldOf 26 = .ok (.iinc 3 1, 3) := by decide +kernel
theorem eX23_fieldOf_29 : decode cX23_fieldOf 29 = .ok (.goto (-27), 3) := by decide +kernel
theorem eX23_fieldOf_32 : decode cX23_fieldOf 32 = .ok (.iconst (-1), 1) := by decide +kernel
theorem eX23_fieldOf_33 : decode cX23_fieldOf 33 = .ok (.ireturn, 1) := by decide +kernel
theorem eX23_refer_0 : decode cX23_refer 0 = .ok (.aload_n 1, 1) := by decide +kernel
theorem eX23_refer_1 : decode cX23_refer 1 = .ok (.getfield 331, 3) := by decide +kernel
theorem eX23_refer_4 : decode cX23_refer 4 = .ok (.invokestatic 288, 3) := by decide +kernel
theorem eX23_refer_7 : decode cX23_refer 7 = .ok (.ifCond .ne 23, 3) := by decide +kernel
theorem eX23_refer_10 : decode cX23_refer 10 = .ok (.aload_n 0, 1) := by decide +kernel
theorem eX23_refer_11 : decode cX23_refer 11 = .ok (.aload_n 1, 1) := by decide +kernel
theorem eX23_refer_12 : decode cX23_refer 12 = .ok (.getfield 331, 3) := by decide +kernel
theorem eX23_refer_15 : decode cX23_refer 15 = .ok (.invokevirtual 523, 3) := by decide +kernel
theorem eX23_refer_18 : decode cX23_refer 18 = .ok (.pop, 1) := by decide +kernel
theorem eX23_refer_19 : decode cX23_refer 19 = .ok (.aload_n 0, 1) := by decide +kernel
theorem eX23_refer_20 : decode cX23_refer 20 = .ok (.aload_n 1, 1) := by decide +kernel
theorem eX23_refer_21 : decode cX23_refer 21 = .ok (.iconst 4, 1) := by decide +kernel
theorem eX23_refer_22 : decode cX23_refer 22 = .ok (.aload_n 1, 1) := by decide +kernel
theorem eX23_refer_23 : decode cX23_refer 23 = .ok (.getfield 350, 3) := by decide +kernel
theorem eX23_refer_26 : decode cX23_refer 26 = .ok (.invokevirtual 496, 3) := by decide +kernel
theorem eX23_refer_29 : decode cX23_refer 29 = .ok (.areturn, 1) := by decide +kernel
theorem eX23_refer_30 : decode cX23_refer 30 = .ok (.aload_n 0, 1) := by decide +kernel
theorem eX23_refer_31 : decode cX23_refer 31 = .ok (.aload_n 1, 1) := by decide +kernel
theorem eX23_refer_32 : decode cX23_refer 32 = .ok (.getfield 331, 3) := by decide +kernel
theorem eX23_refer_35 : decode cX23_refer 35 = .ok (.invokevirtual 489, 3) := by decide +kernel
theorem eX23_refer_38 : decode cX23_refer 38 = .ok (.astore_n 2, 1) := by decide +kernel
theorem eX23_refer_39 : decode cX23_refer 39 = .ok (.aload_n 0, 1) := by decide +kernel
theorem eX23_refer_40 : decode cX23_refer 40 = .ok (.invokevirtual 89, 3) := by decide +kernel
theorem eX23_refer_43 : decode cX23_refer 43 = .ok (.ifCond .eq 19, 3) := by decide +kernel
theorem eX23_refer_46 : decode cX23_refer 46 = .ok (.aload_n 2, 1) := by decide +kernel
theorem eX23_refer_47 : decode cX23_refer 47 = .ok (.invokestatic 503, 3) := by decide +kernel
theorem eX23_refer_50 : decode cX23_refer 50 = .ok (.ifCond .eq 12, 3) := by decide +kernel
theorem eX23_refer_53 : decode cX23_refer 53 = .ok (.aload_n 0, 1) := by decide +kernel
theorem eX23_refer_54 : decode cX23_refer 54 = .ok (.iconst 4, 1) := by decide +kernel
theorem eX23_refer_55 : decode cX23_refer 55 = .ok (.aload_n 1, 1) := by decide +kernel
theorem eX23_refer_56 : decode cX23_refer 56 = .ok (.getfield 350, 3) := by decide +kernel
theorem eX23_refer_59 : decode cX23_refer 59 = .ok (.invokevirtual 96, 3) := by decide +kernel
theorem eX23_refer_62 : decode cX23_refer 62 = .ok (.aload_n 0, 1) := by decide +kernel
theorem eX23_refer_63 : decode cX23_refer 63 = .ok (.invokevirtual 89, 3) := by decide +kernel
theorem eX23_refer_66 : decode cX23_refer 66 = .ok (.ifCond .eq 33, 3) := by decide +kernel
theorem eX23_refer_69 : decode cX23_refer 69 = .ok (.aload_n 1, 1) := by decide +kernel
theorem eX23_refer_70 : decode cX23_refer 70 = .ok (.getfield 358, 3) := by decide +kernel
theorem eX23_refer_73 : decode cX23_refer 73 = .ok (.ifCond .eq 26, 3) := by decide +kernel
theorem eX23_refer_76 : decode cX23_refer 76 = .ok (.aload_n 0, 1) := by decide +kernel
theorem eX23_refer_77 : decode cX23_refer 77 = .ok (.aload_n 1, 1) := by decide +kernel
theorem eX23_refer_78 : decode cX23_refer 78 = .ok (.getfield 331, 3) := by decide +kernel
theorem eX23_refer_81 : decode cX23_refer 81 = .ok (.invokevirtual 514, 3) := by decide +kernel
theorem eX23_refer_84 : decode cX23_refer 84 = .ok (.ifCond .ne 15, 3) := by decide +kernel
theorem eX23_refer_87 : decode cX23_refer 87 = .ok (.aload_n 0, 1) := by decide +kernel
theorem eX23_refer_88 : decode cX23_refer 88 = .ok (.iconst 4, 1) := by decide +kernel
theorem eX23_refer_89 : decode cX23_refer 89 = .ok (.aload_n 1, 1) := by decide +kernel
theorem eX23_refer_90 : decode cX23_refer 90 = .ok (.getfield 331, 3) := by decide +kernel
theorem eX23_refer_93 : decode cX23_refer 93 = .ok (.getfield 350, 3) := by decide +kernel
theorem eX23_refer_96 : decode cX23_refer 96 = .ok (.invokevirtual 96, 3) := by decide +kernel
theorem eX23_refer_99 : decode cX23_refer 99 = .ok (.aload_n 0, 1) := by decide +kernel
theorem eX23_refer_100 : decode cX23_refer 100 = .ok (.aload_n 1, 1) := by decide +kernel
theorem eX23_refer_101 : decode cX23_refer 101 = .ok (.aload_n 0, 1) := by decide +kernel
theorem eX23_refer_102 : decode cX23_refer 102 = .ok (.aload_n 1, 1) := by decide +kernel
theorem eX23_refer_103 : decode cX23_refer 103 = .ok (.getfield 358, 3) := by decide +kernel
theorem eX23_refer_106 : decode cX23_refer 106 = .ok (.ifCond .eq 8, 3) := by decide +kernel
theorem eX23_refer_109 : decode cX23_refer 109 = .ok (.bipush 7, 2) := by decide +kernel
theorem eX23_refer_111 : decode cX23_refer 111 = .ok (.goto 5, 3) := by decide +kernel
theorem eX23_refer_114 : decode cX23_refer 114 = .ok (.bipush 6, 2) := by decide +kernel
theorem eX23_refer_116 : decode cX23_refer 116 = .ok (.iconst 0, 1) := by decide +kernel
theorem eX23_refer_117 : decode cX23_refer 117 = .ok (.aload_n 2, 1) := by decide +kernel
theorem eX23_refer_118 : decode cX23_refer 118 = .ok (.invokevirtual 397, 3) := by decide +kernel
theorem eX23_refer_121 : decode cX23_refer 121 = .ok (.invokevirtual 485, 3) := by decide +kernel
theorem eX23_refer_124 : decode cX23_refer 124 = .ok (.areturn, 1) := by decide +kernel
theorem eX23_operand_0 : decode cX23_operand 0 = .ok (.aload_n 0, 1) := by decide +kernel
theorem eX23_operand_1 : decode cX23_operand 1 = .ok (.aload_n 1, 1) := by decide +kernel
theorem eX23_operand_2 : decode cX23_operand 2 = .ok (.getfield 331, 3) := by decide +kernel
theorem eX23_operand_5 : decode cX23_operand 5 = .ok (.invokevirtual 523, 3) := by decide +kernel
theorem eX23_operand_8 : decode cX23_operand 8 = .ok (.astore 4, 2) := by decide +kernel
theorem eX23_operand_10 : decode cX23_operand 10 = .ok (.aload_n 0, 1) := by decide +kernel
theorem eX23_operand_11 : decode cX23_operand 11 = .ok (.invokevirtual 89, 3) := by decide +kernel
theorem eX23_operand_14 : decode cX23_operand 14 = .ok (.ifCond .eq 21, 3) := by decide +kernel
theorem eX23_operand_17 : decode cX23_operand 17 = .ok (.aload 4, 2) := by decide +kernel
theorem eX23_operand_19 : decode cX23_operand 19 = .ok (.getfield 386, 3) := by decide +kernel
theorem eX23_operand_22 : decode cX23_operand 22 = .ok (.iload_n 2, 1) := by decide +kernel
theorem eX23_operand_23 : decode cX23_operand 23 = .ok (.if_icmp .eq 12, 3) := by decide +kernel
theorem eX23_operand_26 : decode cX23_operand 26 = .ok (.aload_n 0, 1) := by decide +kernel
theorem eX23_operand_27 : decode cX23_operand 27 = .ok (.iconst 4, 1) := by decide +kernel
theorem eX23_operand_28 : decode cX23_operand 28 = .ok (.aload_n 1, 1) := by decide +kernel
theorem eX23_operand_29 : decode cX23_operand 29 = .ok (.getfield 350, 3) := by decide +kernel
theorem eX23_operand_32 : decode cX23_operand 32 = .ok (.invokevirtual 96, 3) := by decide +kernel
theorem eX23_operand_35 : decode cX23_operand 35 = .ok (.aload_n 0, 1) := by decide +kernel
theorem eX23_operand_36 : decode cX23_operand 36 = .ok (.aload_n 1, 1) := by decide +kernel
theorem eX23_operand_37 : decode cX23_operand 37 = .ok (.aload_n 0, 1) := by decide +kernel
theorem eX23_operand_38 : decode cX23_operand 38 = .ok (.iload_n 3, 1) := by decide +kernel
theorem eX23_operand_39 : decode cX23_operand 39 = .ok (.invokevirtual 405, 3) := by decide +kernel
theorem eX23_operand_42 : decode cX23_operand 42 = .ok (.invokevirtual 485, 3) := by decide +kernel
theorem eX23_operand_45 : decode cX23_operand 45 = .ok (.areturn, 1) := by decide +kernel
theorem eX23_chained_0 : decode cX23_chained 0 = .ok (.aload_n 0, 1) := by decide +kernel
theorem eX23_chained_1 : decode cX23_chained 1 = .ok (.aload_n 1, 1) := by decide +kernel
theorem eX23_chained_2 : decode cX23_chained 2 = .ok (.getfield 331, 3) := by decide +kernel
theorem eX23_chained_5 : decode cX23_chained 5 = .ok (.invokevirtual 523, 3) := by decide +kernel
theorem eX23_chained_8 : decode cX23_chained 8 = .ok (.astore_n 2, 1) := by decide +kernel
theorem eX23_chained_9 : decode cX23_chained 9 = .ok (.iconst 0, 1) := by decide +kernel
theorem eX23_chained_10 : decode cX23_chained 10 = .ok (.istore_n 3, 1) := by decide +kernel
theorem eX23_chained_11 : decode cX23_chained 11 = .ok (.iload_n 3, 1) := by decide +kernel
theorem eX23_chained_12 : decode cX23_chained 12 = .ok (.aload_n 1, 1) := by decide +kernel
theorem eX23_chained_13 : decode cX23_chained 13 = .ok (.getfield 342, 3) := by decide +kernel
theorem eX23_chained_16 : decode cX23_chained 16 = .ok (.if_icmp .ge 180, 3) := by decide +kernel
theorem eX23_chained_19 : decode cX23_chained 19 = .ok (.aload_n 0, 1) := by decide +kernel
theorem eX23_chained_20 : decode cX23_chained 20 = .ok (.invokevirtual 89, 3) := by decide +kernel
theorem eX23_chained_23 : decode cX23_chained 23 = .ok (.ifCond .eq 173, 3) := by decide +kernel
theorem eX23_chained_26 : decode cX23_chained 26 = .ok (.aload_n 0, 1) := by decide +kernel
theorem eX23_chained_27 : decode cX23_chained 27 = .ok (.aload_n 1, 1) := by decide +kernel
theorem eX23_chained_28 : decode cX23_chained 28 = .ok (.getfield 337, 3) := by decide +kernel
theorem eX23_chained_31 : decode cX23_chained 31 = .ok (.iload_n 3, 1) := by decide +kernel
theorem eX23_chained_32 : decode cX23_chained 32 = .ok (.aaload, 1) := by decide +kernel
theorem eX23_chained_33 : decode cX23_chained 33 = .ok (.invokevirtual 523, 3) := by decide +kernel
theorem eX23_chained_36 : decode cX23_chained 36 = .ok (.astore 4, 2) := by decide +kernel
theorem eX23_chained_38 : decode cX23_chained 38 = .ok (.aload_n 0, 1) := by decide +kernel
theorem eX23_chained_39 : decode cX23_chained 39 = .ok (.getfield 25, 3) := by decide +kernel
theorem eX23_chained_42 : decode cX23_chained 42 = .ok (.aload_n 1, 1) := by decide +kernel
theorem eX23_chained_43 : decode cX23_chained 43 = .ok (.getfield 339, 3) := by decide +kernel
theorem eX23_chained_46 : decode cX23_chained 46 = .ok (.iload_n 3, 1) := by decide +kernel
theorem eX23_chained_47 : decode cX23_chained 47 = .ok (.iaload, 1) := by decide +kernel
theorem eX23_chained_48 : decode cX23_chained 48 = .ok (.iaload, 1) := by decide +kernel
theorem eX23_chained_49 : decode cX23_chained 49 = .ok (.istore 5, 2) := by decide +kernel
theorem eX23_chained_51 : decode cX23_chained 51 = .ok (.iload 5, 2) := by decide +kernel
theorem eX23_chained_53 : decode cX23_chained 53 = .ok (.invokestatic 346, 3) := by decide +kernel
theorem eX23_chained_56 : decode cX23_chained 56 = .ok (.istore 6, 2) := by decide +kernel
theorem eX23_chained_58 : decode cX23_chained 58 = .ok (.aload_n 2, 1) := by decide +kernel
theorem eX23_chained_59 : decode cX23_chained 59 = .ok (.getfield 386, 3) := by decide +kernel
theorem eX23_chained_62 : decode cX23_chained 62 = .ok (.ifCond .ne 15, 3) := by decide +kernel
theorem eX23_chained_65 : decode cX23_chained 65 = .ok (.aload 4, 2) := by decide +kernel
theorem eX23_chained_67 : decode cX23_chained 67 = .ok (.getfield 386, 3) := by decide +kernel
theorem eX23_chained_70 : decode cX23_chained 70 = .ok (.ifCond .ne 7, 3) := by decide +kernel
theorem eX23_chained_73 : decode cX23_chained 73 = .ok (.iconst 1, 1) := by decide +kernel
theorem eX23_chained_74 : decode cX23_chained 74 = .ok (.goto 4, 3) := by decide +kernel
theorem eX23_chained_77 : decode cX23_chained 77 = .ok (.iconst 0, 1) := by decide +kernel
theorem eX23_chained_78 : decode cX23_chained 78 = .ok (.istore 7, 2) := by decide +kernel
theorem eX23_chained_80 : decode cX23_chained 80 = .ok (.aload_n 2, 1) := by decide +kernel
theorem eX23_chained_81 : decode cX23_chained 81 = .ok (.getfield 386, 3) := by decide +kernel
theorem eX23_chained_84 : decode cX23_chained 84 = .ok (.iconst 1, 1) := by decide +kernel
theorem eX23_chained_85 : decode cX23_chained 85 = .ok (.if_icmp .ne 16, 3) := by decide +kernel
theorem eX23_chained_88 : decode cX23_chained 88 = .ok (.aload 4, 2) := by decide +kernel
theorem eX23_chained_90 : decode cX23_chained 90 = .ok (.getfield 386, 3) := by decide +kernel
theorem eX23_chained_93 : decode cX23_chained 93 = .ok (.iconst 1, 1) := by decide +kernel
theorem eX23_chained_94 : decode cX23_chained 94 = .ok (.if_icmp .ne 7, 3) := by decide +kernel
theorem eX23_chained_97 : decode cX23_chained 97 = .ok (.iconst 1, 1) := by decide +kernel
theorem eX23_chained_98 : decode cX23_chained 98 = .ok (.goto 4, 3) := by decide +kernel
theorem eX23_chained_101 : decode cX23_chained 101 = .ok (.iconst 0, 1) := by decide +kernel
theorem eX23_chained_102 : decode cX23_chained 102 = .ok (.istore 8, 2) := by decide +kernel
theorem eX23_chained_104 : decode cX23_chained 104 = .ok (.iload 6, 2) := by decide +kernel
theorem eX23_chained_106 : decode cX23_chained 106 = .ok (.iconst 3, 1) := by decide +kernel
theorem eX23_chained_107 : decode cX23_chained 107 = .ok (.if_icmp .ge 8, 3) := by decide +kernel
theorem eX23_chained_110 : decode cX23_chained 110 = .ok (.iload 8, 2) := by decide +kernel
theorem eX23_chained_112 : decode cX23_chained 112 = .ok (.goto 37, 3) := by decide +kernel
theorem eX23_chained_115 : decode cX23_chained 115 = .ok (.iload 5, 2) := by decide +kernel
theorem eX23_chained_117 : decode cX23_chained 117 = .ok (.bipush 45, 2) := by decide +kernel
theorem eX23_chained_119 : decode cX23_chained 119 = .ok (.if_icmp .eq 10, 3) := by decide +kernel
theorem eX23_chained_122 : decode cX23_chained 122 = .ok (.iload 5, 2) := by decide +kernel
theorem eX23_chained_124 : decode cX23_chained 124 = .ok (.bipush 46, 2) := by decide +kernel
theorem eX23_chained_126 : decode cX23_chained 126 = .ok (.if_icmp .ne 21, 3) := by decide +kernel
theorem eX23_chained_129 : decode cX23_chained 129 = .ok (.iload 7, 2) := by decide +kernel
theorem eX23_chained_131 : decode cX23_chained 131 = .ok (.ifCond .ne 8, 3) := by decide +kernel
theorem eX23_chained_134 : decode cX23_chained 134 = .ok (.iload 8, 2) := by decide +kernel
theorem eX23_chained_136 : decode cX23_chained 136 = .ok (.ifCond .eq 7, 3) := by decide +kernel
theorem eX23_chained_139 : decode cX23_chained 139 = .ok (.iconst 1, 1) := by decide +kernel
theorem eX23_chained_140 : decode cX23_chained 140 = .ok (.goto 9, 3) := by decide +kernel
theorem eX23_chained_143 : decode cX23_chained 143 = .ok (.iconst 0, 1) := by decide +kernel
theorem eX23_chained_144 : decode cX23_chained 144 = .ok (.goto 5, 3) := by decide +kernel
theorem eX23_chained_147 : decode cX23_chained 147 = .ok (.iload 7, 2) := by decide +kernel
theorem eX23_chained_149 : decode cX23_chained 149 = .ok (.istore 9, 2) := by decide +kernel
theorem eX23_chained_151 : decode cX23_chained 151 = .ok (.aload_n 0, 1) := by decide +kernel
theorem eX23_chained_152 : decode cX23_chained 152 = .ok (.invokevirtual 89, 3) := by decide +kernel
theorem eX23_chained_155 : decode cX23_chained 155 = .ok (.ifCond .eq 19, 3) := by decide +kernel
theorem eX23_chained_158 : decode cX23_chained 158 = .ok (.iload 9, 2) := by decide +kernel
theorem eX23_chained_160 : decode cX23_chained 160 = .ok (.ifCond .ne 14, 3) := by decide +kernel
theorem eX23_chained_163 : decode cX23_chained 163 = .ok (.aload_n 0, 1) := by decide +kernel
theorem eX23_chained_164 : decode cX23_chained 164 = .ok (.iconst 4, 1) := by decide +kernel
theorem eX23_chained_165 : decode cX23_chained 165 = .ok (.aload_n 1, 1) := by decide +kernel
theorem eX23_chained_166 : decode cX23_chained 166 = .ok (.getfield 339, 3) := by decide +kernel
theorem eX23_chained_169 : decode cX23_chained 169 = .ok (.iload_n 3, 1) := by decide +kernel
theorem eX23_chained_170 : decode cX23_chained 170 = .ok (.iaload, 1) := by decide +kernel
theorem eX23_chained_171 : decode cX23_chained 171 = .ok (.invokevirtual 96, 3) := by decide +kernel
theorem eX23_chained_174 : decode cX23_chained 174 = .ok (.aload_n 0, 1) := by decide +kernel
theorem eX23_chained_175 : decode cX23_chained 175 = .ok (.iload 6, 2) := by decide +kernel
theorem eX23_chained_177 : decode cX23_chained 177 = .ok (.iconst 3, 1) := by decide +kernel
theorem eX23_chained_178 : decode cX23_chained 178 = .ok (.if_icmp .le 7, 3) := by decide +kernel
theorem eX23_chained_181 : decode cX23_chained 181 = .ok (.iconst 0, 1) := by decide +kernel
theorem eX23_chained_182 : decode cX23_chained 182 = .ok (.goto 4, 3) := by decide +kernel
theorem eX23_chained_185 : decode cX23_chained 185 = .ok (.iconst 1, 1) := by decide +kernel
theorem eX23_chained_186 : decode cX23_chained 186 = .ok (.invokevirtual 405, 3) := by decide +kernel
theorem eX23_chained_189 : decode cX23_chained 189 = .ok (.astore_n 2, 1) := by decide +kernel
theorem eX23_chained_190 : decode cX23_chained 190 = .ok (.iinc 3 1, 3) := by decide +kernel
theorem eX23_chained_193 : decode cX23_chained 193 = .ok (.goto (-182), 3) := by decide +kernel
theorem eX23_chained_196 : decode cX23_chained 196 = .ok (.aload_n 0, 1) := by decide +kernel
theorem eX23_chained_197 : decode cX23_chained 197 = .ok (.aload_n 1, 1) := by decide +kernel
theorem eX23_chained_198 : decode cX23_chained 198 = .ok (.aload_n 2, 1) := by decide +kernel
theorem eX23_chained_199 : decode cX23_chained 199 = .ok (.invokevirtual 485, 3) := by decide +kernel
theorem eX23_chained_202 : decode cX23_chained 202 = .ok (.areturn, 1) := by decide +kernel
theorem eX23_fits_0 : decode cX23_fits 0 = .ok (.aload_n 0, 1) := by decide +kernel
theorem eX23_fits_1 : decode cX23_fits 1 = .ok (.aload_n 1, 1) := by decide +kernel
theorem eX23_fits_2 : decode cX23_fits 2 = .ok (.invokevirtual 523, 3) := by decide +kernel
theorem eX23_fits_5 : decode cX23_fits 5 = .ok (.astore_n 3, 1) := by decide +kernel
theorem eX23_fits_6 : decode cX23_fits 6 = .ok (.aload_n 0, 1) := by decide +kernel
theorem eX23_fits_7 : decode cX23_fits 7 = .ok (.invokevirtual 89, 3) := by decide +kernel
theorem eX23_fits_10 : decode cX23_fits 10 = .ok (.ifCond .eq 17, 3) := by decide +kernel
theorem eX23_fits_13 : decode cX23_fits 13 = .ok (.aload_n 3, 1) := by decide +kernel
theorem eX23_fits_14 : decode cX23_fits 14 = .ok (.aload_n 2, 1) := by decide +kernel
theorem eX23_fits_15 : decode cX23_fits 15 = .ok (.if_acmp .eq 12, 3) := by decide +kernel
theorem eX23_fits_18 : decode cX23_fits 18 = .ok (.aload_n 0, 1) := by decide +kernel
theorem eX23_fits_19 : decode cX23_fits 19 = .ok (.iconst 4, 1) := by decide +kernel
theorem eX23_fits_20 : decode cX23_fits 20 = .ok (.aload_n 1, 1) := by decide +kernel
theorem eX23_fits_21 : decode cX23_fits 21 = .ok (.getfield 350, 3) := by decide +kernel
theorem eX23_fits_24 : decode cX23_fits 24 = .ok (.invokevirtual 96, 3) := by decide +kernel
theorem eX23_fits_27 : decode cX23_fits 27 = .ok (.return_, 1) := by decide +kernel
theorem eX23_variantOf_0 : decode cX23_variantOf 0 = .ok (.aload_n 0, 1) := by decide +kernel
theorem eX23_variantOf_1 : decode cX23_variantOf 1 = .ok (.aload_n 1, 1) := by decide +kernel
theorem eX23_variantOf_2 : decode cX23_variantOf 2 = .ok (.getfield 362, 3) := by decide +kernel
theorem eX23_variantOf_5 : decode cX23_variantOf 5 = .ok (.invokevirtual 413, 3) := by decide +kernel
theorem eX23_variantOf_8 : decode cX23_variantOf 8 = .ok (.istore_n 2, 1) := by decide +kernel
theorem eX23_variantOf_9 : decode cX23_variantOf 9 = .ok (.iload_n 2, 1) := by decide +kernel
theorem eX23_variantOf_10 : decode cX23_variantOf 10 = .ok (.ifCond .lt 17, 3) := by decide +kernel
theorem eX23_variantOf_13 : decode cX23_variantOf 13 = .ok (.aload_n 0, 1) := by decide +kernel
theorem eX23_variantOf_14 : decode cX23_variantOf 14 = .ok (.getfield 232, 3) := by decide +kernel
theorem eX23_variantOf_17 : decode cX23_variantOf 17 = .ok (.iload_n 2, 1) := by decide +kernel
theorem eX23_variantOf_18 : decode cX23_variantOf 18 = .ok (.aaload, 1) := by decide +kernel
theorem eX23_variantOf_19 : decode cX23_variantOf 19 = .ok (.getfield 174, 3) := by decide +kernel
theorem eX23_variantOf_22 : decode cX23_variantOf 22 = .ok (.bipush 11, 2) := by decide +kernel
theorem eX23_variantOf_24 : decode cX23_variantOf 24 = .ok (.if_icmp .eq 14, 3) := by decide +kernel
theorem eX23_variantOf_27 : decode cX23_variantOf 27 = .ok (.aload_n 0, 1) := by decide +kernel
theorem eX23_variantOf_28 : decode cX23_variantOf 28 = .ok (.aload_n 1, 1) := by decide +kernel
theorem eX23_variantOf_29 : decode cX23_variantOf 29 = .ok (.iconst 3, 1) := by decide +kernel
theorem eX23_variantOf_30 : decode cX23_variantOf 30 = .ok (.aload_n 1, 1) := by decide +kernel
theorem eX23_variantOf_31 : decode cX23_variantOf 31 = .ok (.getfield 362, 3) := by decide +kernel
theorem eX23_variantOf_34 : decode cX23_variantOf 34 = .ok (.invokevirtual 496, 3) := by decide +kernel
theorem eX23_variantOf_37 : decode cX23_variantOf 37 = .ok (.areturn, 1) := by decide +kernel
theorem eX23_variantOf_38 : decode cX23_variantOf 38 = .ok (.aload_n 0, 1) := by decide +kernel
theorem eX23_variantOf_39 : decode cX23_variantOf 39 = .ok (.aload_n 0, 1) := by decide +kernel
theorem eX23_variantOf_40 : decode cX23_variantOf 40 = .ok (.getfield 232, 3) := by decide +kernel
theorem eX23_variantOf_43 : decode cX23_variantOf 43 = .ok (.iload_n 2, 1) := by decide +kernel
theorem eX23_variantOf_44 : decode cX23_variantOf 44 = .ok (.aaload, 1) := by decide +kernel
theorem eX23_variantOf_45 : decode cX23_variantOf 45 = .ok (.aload_n 1, 1) := by decide +kernel
theorem eX23_variantOf_46 : decode cX23_variantOf 46 = .ok (.getfield 379, 3) := by decide +kernel
theorem eX23_variantOf_49 : decode cX23_variantOf 49 = .ok (.invokevirtual 551, 3) := by decide +kernel
theorem eX23_variantOf_52 : decode cX23_variantOf 52 = .ok (.istore_n 3, 1) := by decide +kernel
theorem eX23_variantOf_53 : decode cX23_variantOf 53 = .ok (.iload_n 3, 1) := by decide +kernel
theorem eX23_variantOf_54 : decode cX23_variantOf 54 = .ok (.ifCond .ge 14, 3) := by decide +kernel
theorem eX23_variantOf_57 : decode cX23_variantOf 57 = .ok (.aload_n 0, 1) := by decide +kernel
theorem eX23_variantOf_58 : decode cX23_variantOf 58 = .ok (.aload_n 1, 1) := by decide +kernel
theorem eX23_variantOf_59 : decode cX23_variantOf 59 = .ok (.iconst 3, 1) := by decide +kernel
theorem eX23_variantOf_60 : decode cX23_variantOf 60 = .ok (.aload_n 1, 1) := by decide +kernel
theorem eX23_variantOf_61 : decode cX23_variantOf 61 = .ok (.getfield 379, 3) := by decide +kernel
theorem eX23_variantOf_64 : decode cX23_variantOf 64 = .ok (.invokevirtual 496, 3) := by decide +kernel
theorem eX23_variantOf_67 : decode cX23_variantOf 67 = .ok (.areturn, 1) := by decide +kernel
theorem eX23_variantOf_68 : decode cX23_variantOf 68 = .ok (.aload_n 0, 1) := by decide +kernel
theorem eX23_variantOf_69 : decode cX23_variantOf 69 = .ok (.getfield 232, 3) := by decide +kernel
theorem eX23_variantOf_72 : decode cX23_variantOf 72 = .ok (.iload_n 2, 1) := by decide +kernel
theorem eX23_variantOf_73 : decode cX23_variantOf 73 = .ok (.aaload, 1) := by decide +kernel
theorem eX23_variantOf_74 : decode cX23_variantOf 74 = .ok (.getfield 159, 3) := by decide +kernel
theorem eX23_variantOf_77 : decode cX23_variantOf 77 = .ok (.iload_n 3, 1) := by decide +kernel
theorem eX23_variantOf_78 : decode cX23_variantOf 78 = .ok (.aaload, 1) := by decide +kernel
theorem eX23_variantOf_79 : decode cX23_variantOf 79 = .ok (.astore 4, 2) := by decide +kernel
theorem eX23_variantOf_81 : decode cX23_variantOf 81 = .ok (.aload 4, 2) := by decide +kernel
theorem eX23_variantOf_83 : decode cX23_variantOf 83 = .ok (.getfield 170, 3) := by decide +kernel
theorem eX23_variantOf_86 : decode cX23_variantOf 86 = .ok (.aload_n 1, 1) := by decide +kernel
theorem eX23_variantOf_87 : decode cX23_variantOf 87 = .ok (.getfield 342, 3) := by decide +kernel
theorem eX23_variantOf_90 : decode cX23_variantOf 90 = .ok (.if_icmp .eq 14, 3) := by decide +kernel
theorem eX23_variantOf_93 : decode cX23_variantOf 93 = .ok (.aload_n 0, 1) := by decide +kernel
theorem eX23_variantOf_94 : decode cX23_variantOf 94 = .ok (.aload_n 1, 1) := by decide +kernel
theorem eX23_variantOf_95 : decode cX23_variantOf 95 = .ok (.iconst 4, 1) := by decide +kernel
theorem eX23_variantOf_96 : decode cX23_variantOf 96 = .ok (.aload_n 1, 1) := by decide +kernel
theorem eX23_variantOf_97 : decode cX23_variantOf 97 = .ok (.getfield 350, 3) := by decide +kernel
theorem eX23_variantOf_100 : decode cX23_variantOf 100 = .ok (.invokevirtual 496, 3) := by decide +kernel
theorem eX23_variantOf_103 : decode cX23_variantOf 103 = .ok (.areturn, 1) := by decide +kernel
theorem eX23_variantOf_104 : decode cX23_variantOf 104 = .ok (.aload_n 1, 1) := by decide +kernel
theorem eX23_variantOf_105 : decode cX23_variantOf 105 = .ok (.iload_n 2, 1) := by decide +kernel
theorem eX23_variantOf_106 : decode cX23_variantOf 106 = .ok (.putfield 510, 3) := by decide +kernel
theorem eX23_variantOf_109 : decode cX23_variantOf 109 = .ok (.aload_n 1, 1) := by decide +kernel
theorem eX23_variantOf_110 : decode cX23_variantOf 110 = .ok (.iload_n 3, 1) := by decide +kernel
theorem eX23_variantOf_111 : decode cX23_variantOf 111 = .ok (.putfield 555, 3) := by decide +kernel
theorem eX23_variantOf_114 : decode cX23_variantOf 114 = .ok (.iconst 0, 1) := by decide +kernel
theorem eX23_variantOf_115 : decode cX23_variantOf 115 = .ok (.istore 5, 2) := by decide +kernel
theorem eX23_variantOf_117 : decode cX23_variantOf 117 = .ok (.iload 5, 2) := by decide +kernel
theorem eX23_variantOf_119 : decode cX23_variantOf 119 = .ok (.aload_n 1, 1) := by decide +kernel
theorem eX23_variantOf_120 : decode cX23_variantOf 120 = .ok (.getfield 342, 3) := by decide +kernel
theorem eX23_variantOf_123 : decode cX23_variantOf 123 = .ok (.if_icmp .ge 35, 3) := by decide +kernel
theorem eX23_variantOf_126 : decode cX23_variantOf 126 = .ok (.aload_n 0, 1) := by decide +kernel
theorem eX23_variantOf_127 : decode cX23_variantOf 127 = .ok (.invokevirtual 89, 3) := by decide +kernel
theorem eX23_variantOf_130 : decode cX23_variantOf 130 = .ok (.ifCond .eq 28, 3) := by decide +kernel
theorem eX23_variantOf_133 : decode cX23_variantOf 133 = .ok (.aload_n 0, 1) := by decide +kernel
theorem eX23_variantOf_134 : decode cX23_variantOf 134 = .ok (.aload_n 1, 1) := by decide +kernel
theorem eX23_variantOf_135 : decode cX23_variantOf 135 = .ok (.getfield 337, 3) := by decide +kernel
theorem eX23_variantOf_138 : decode cX23_variantOf 138 = .ok (.iload 5, 2) := by decide +kernel
theorem eX23_variantOf_140 : decode cX23_variantOf 140 = .ok (.aaload, 1) := by decide +kernel
theorem eX23_variantOf_141 : decode cX23_variantOf 141 = .ok (.aload 4, 2) := by decide +kernel
theorem eX23_variantOf_143 : decode cX23_variantOf 143 = .ok (.getfield 166, 3) := by decide +kernel
theorem eX23_variantOf_146 : decode cX23_variantOf 146 = .ok (.iload 5, 2) := by decide +kernel
theorem eX23_variantOf_148 : decode cX23_variantOf 148 = .ok (.aaload, 1) := by decide +kernel
theorem eX23_variantOf_149 : decode cX23_variantOf 149 = .ok (.invokevirtual 547, 3) := by decide +kernel
theorem eX23_variantOf_152 : decode cX23_variantOf 152 = .ok (.iinc 5 1, 3) := by decide +kernel
theorem eX23_variantOf_155 : decode cX23_variantOf 155 = .ok (.goto (-38), 3) := by decide +kernel
theorem eX23_variantOf_158 : decode cX23_variantOf 158 = .ok (.aload_n 0, 1) := by decide +kernel
theorem eX23_variantOf_159 : decode cX23_variantOf 159 = .ok (.aload_n 1, 1) := by decide +kernel
theorem eX23_variantOf_160 : decode cX23_variantOf 160 = .ok (.aload_n 0, 1) := by decide +kernel
theorem eX23_variantOf_161 : decode cX23_variantOf 161 = .ok (.iconst 4, 1) := by decide +kernel
theorem eX23_variantOf_162 : decode cX23_variantOf 162 = .ok (.iload_n 2, 1) := by decide +kernel
theorem eX23_variantOf_163 : decode cX23_variantOf 163 = .ok (.aconst_null, 1) := by decide +kernel
theorem eX23_variantOf_164 : decode cX23_variantOf 164 = .ok (.invokevirtual 397, 3) := by decide +kernel
theorem eX23_variantOf_167 : decode cX23_variantOf 167 = .ok (.invokevirtual 485, 3) := by decide +kernel
theorem eX23_variantOf_170 : decode cX23_variantOf 170 = .ok (.areturn, 1) := by decide +kernel
theorem eX23_made_0 : decode cX23_made 0 = .ok (.aload_n 0, 1) := by decide +kernel
theorem eX23_made_1 : decode cX23_made 1 = .ok (.aload_n 1, 1) := by decide +kernel
theorem eX23_made_2 : decode cX23_made 2 = .ok (.getfield 362, 3) := by decide +kernel
theorem eX23_made_5 : decode cX23_made 5 = .ok (.invokevirtual 413, 3) := by decide +kernel
theorem eX23_made_8 : decode cX23_made 8 = .ok (.istore_n 2, 1) := by decide +kernel
theorem eX23_made_9 : decode cX23_made 9 = .ok (.iload_n 2, 1) := by decide +kernel
theorem eX23_made_10 : decode cX23_made 10 = .ok (.ifCond .lt 17, 3) := by decide +kernel
theorem eX23_made_13 : decode cX23_made 13 = .ok (.aload_n 0, 1) := by decide +kernel
theorem eX23_made_14 : decode cX23_made 14 = .ok (.getfield 232, 3) := by decide +kernel
theorem eX23_made_17 : decode cX23_made 17 = .ok (.iload_n 2, 1) := by decide +kernel
theorem eX23_made_18 : decode cX23_made 18 = .ok (.aaload, 1) := by decide +kernel
theorem eX23_made_19 : decode cX23_made 19 = .ok (.getfield 174, 3) := by decide +kernel
theorem eX23_made_22 : decode cX23_made 22 = .ok (.bipush 10, 2) := by decide +kernel
theorem eX23_made_24 : decode cX23_made 24 = .ok (.if_icmp .eq 14, 3) := by decide +kernel
theorem eX23_made_27 : decode cX23_made 27 = .ok (.aload_n 0, 1) := by decide +kernel
theorem eX23_made_28 : decode cX23_made 28 = .ok (.aload_n 1, 1) := by decide +kernel
theorem eX23_made_29 : decode cX23_made 29 = .ok (.iconst 3, 1) := by decide +kernel
theorem eX23_made_30 : decode cX23_made 30 = .ok (.aload_n 1, 1) := by decide +kernel
theorem eX23_made_31 : decode cX23_made 31 = .ok (.getfield 362, 3) := by decide +kernel
theorem eX23_made_34 : decode cX23_made 34 = .ok (.invokevirtual 496, 3) := by decide +kernel
theorem eX23_made_37 : decode cX23_made 37 = .ok (.areturn, 1) := by decide +kernel
theorem eX23_made_38 : decode cX23_made 38 = .ok (.aload_n 0, 1) := by decide +kernel
theorem eX23_made_39 : decode cX23_made 39 = .ok (.getfield 232, 3) := by decide +kernel
theorem eX23_made_42 : decode cX23_made 42 = .ok (.iload_n 2, 1) := by decide +kernel
theorem eX23_made_43 : decode cX23_made 43 = .ok (.aaload, 1) := by decide +kernel
theorem eX23_made_44 : decode cX23_made 44 = .ok (.astore_n 3, 1) := by decide +kernel
theorem eX23_made_45 : decode cX23_made 45 = .ok (.aload_n 1, 1) := by decide +kernel
theorem eX23_made_46 : decode cX23_made 46 = .ok (.iload_n 2, 1) := by decide +kernel
theorem eX23_made_47 : decode cX23_made 47 = .ok (.putfield 510, 3) := by decide +kernel
theorem eX23_made_50 : decode cX23_made 50 = .ok (.iconst 0, 1) := by decide +kernel
theorem eX23_made_51 : decode cX23_made 51 = .ok (.istore 4, 2) := by decide +kernel
theorem eX23_made_53 : decode cX23_made 53 = .ok (.iload 4, 2) := by decide +kernel
theorem eX23_made_55 : decode cX23_made 55 = .ok (.aload_n 1, 1) := by decide +kernel
theorem eX23_made_56 : decode cX23_made 56 = .ok (.getfield 342, 3) := by decide +kernel
theorem eX23_made_59 : decode cX23_made 59 = .ok (.if_icmp .ge 116, 3) := by decide +kernel
theorem eX23_made_62 : decode cX23_made 62 = .ok (.aload_n 0, 1) := by decide +kernel
theorem eX23_made_63 : decode cX23_made 63 = .ok (.invokevirtual 89, 3) := by decide +kernel
theorem eX23_made_66 : decode cX23_made 66 = .ok (.ifCond .eq 109, 3) := by decide +kernel
theorem eX23_made_69 : decode cX23_made 69 = .ok (.aload_n 0, 1) := by decide +kernel
theorem eX23_made_70 : decode cX23_made 70 = .ok (.aload_n 3, 1) := by decide +kernel
theorem eX23_made_71 : decode cX23_made 71 = .ok (.aload_n 1, 1) := by decide +kernel
theorem eX23_made_72 : decode cX23_made 72 = .ok (.getfield 339, 3) := by decide +kernel
theorem eX23_made_75 : decode cX23_made 75 = .ok (.iload 4, 2) := by decide +kernel
theorem eX23_made_77 : decode cX23_made 77 = .ok (.iaload, 1) := by decide +kernel
theorem eX23_made_78 : decode cX23_made 78 = .ok (.invokevirtual 551, 3) := by decide +kernel
theorem eX23_made_81 : decode cX23_made 81 = .ok (.istore 5, 2) := by decide +kernel
theorem eX23_made_83 : decode cX23_made 83 = .ok (.iconst 0, 1) := by decide +kernel
theorem eX23_made_84 : decode cX23_made 84 = .ok (.istore 6, 2) := by decide +kernel
theorem eX23_made_86 : decode cX23_made 86 = .ok (.iconst 0, 1) := by decide +kernel
theorem eX23_made_87 : decode cX23_made 87 = .ok (.istore 7, 2) := by decide +kernel
theorem eX23_made_89 : decode cX23_made 89 = .ok (.iload 7, 2) := by decide +kernel
theorem eX23_made_91 : decode cX23_made 91 = .ok (.iload 4, 2) := by decide +kernel
theorem eX23_made_93 : decode cX23_made 93 = .ok (.if_icmp .ge 33, 3) := by decide +kernel
theorem eX23_made_96 : decode cX23_made 96 = .ok (.aload_n 0, 1) := by decide +kernel
theorem eX23_made_97 : decode cX23_made 97 = .ok (.aload_n 1, 1) := by decide +kernel
theorem eX23_made_98 : decode cX23_made 98 = .ok (.getfield 339, 3) := by decide +kernel
theorem eX23_made_101 : decode cX23_made 101 = .ok (.iload 7, 2) := by decide +kernel
theorem eX23_made_103 : decode cX23_made 103 = .ok (.iaload, 1) := by decide +kernel
theorem eX23_made_104 : decode cX23_made 104 = .ok (.aload_n 1, 1) := by decide +kernel
theorem eX23_made_105 : decode cX23_made 105 = .ok (.getfield 339, 3) := by decide +kernel
theorem eX23_made_108 : decode cX23_made 108 = .ok (.iload 4, 2) := by decide +kernel
theorem eX23_made_110 : decode cX23_made 110 = .ok (.iaload, 1) := by decide +kernel
theorem eX23_made_111 : decode cX23_made 111 = .ok (.invokevirtual 401, 3) := by decide +kernel
theorem eX23_made_114 : decode cX23_made 114 = .ok (.ifCond .eq 6, 3) := by decide +kernel
theorem eX23_made_117 : decode cX23_made 117 = .ok (.iconst 1, 1) := by decide +kernel
theorem eX23_made_118 : decode cX23_made 118 = .ok (.istore 6, 2) := by decide +kernel
theorem eX23_made_120 : decode cX23_made 120 = .ok (.iinc 7 1, 3) := by decide +kernel
theorem eX23_made_123 : decode cX23_made 123 = .ok (.goto (-34), 3) := by decide +kernel
theorem eX23_made_126 : decode cX23_made 126 = .ok (.iload 5, 2) := by decide +kernel
theorem eX23_made_128 : decode cX23_made 128 = .ok (.ifCond .lt 8, 3) := by decide +kernel
theorem eX23_made_131 : decode cX23_made 131 = .ok (.iload 6, 2) := by decide +kernel
theorem eX23_made_133 : decode cX23_made 133 = .ok (.ifCond .eq 18, 3) := by decide +kernel
theorem eX23_made_136 : decode cX23_made 136 = .ok (.aload_n 0, 1) := by decide +kernel
theorem eX23_made_137 : decode cX23_made 137 = .ok (.iconst 3, 1) := by decide +kernel
theorem eX23_made_138 : decode cX23_made 138 = .ok (.aload_n 1, 1) := by decide +kernel
theorem eX23_made_139 : decode cX23_made 139 = .ok (.getfield 339, 3) := by decide +kernel
theorem eX23_made_142 : decode cX23_made 142 = .ok (.iload 4, 2) := by decide +kernel
theorem eX23_made_144 : decode cX23_made 144 = .ok (.iaload, 1) := by decide +kernel
theorem eX23_made_145 : decode cX23_made 145 = .ok (.invokevirtual 96, 3) := by decide +kernel
theorem eX23_made_148 : decode cX23_made 148 = .ok (.goto 21, 3) := by decide +kernel
theorem eX23_made_151 : decode cX23_made 151 = .ok (.aload_n 0, 1) := by decide +kernel
theorem eX23_made_152 : decode cX23_made 152 = .ok (.aload_n 1, 1) := by decide +kernel
theorem eX23_made_153 : decode cX23_made 153 = .ok (.getfield 337, 3) := by decide +kernel
theorem eX23_made_156 : decode cX23_made 156 = .ok (.iload 4, 2) := by decide +kernel
theorem eX23_made_158 : decode cX23_made 158 = .ok (.aaload, 1) := by decide +kernel
theorem eX23_made_159 : decode cX23_made 159 = .ok (.aload_n 3, 1) := by decide +kernel
theorem eX23_made_160 : decode cX23_made 160 = .ok (.getfield 175, 3) := by decide +kernel
theorem eX23_made_163 : decode cX23_made 163 = .ok (.iload 5, 2) := by decide +kernel
theorem eX23_made_165 : decode cX23_made 165 = .ok (.aaload, 1) := by decide +kernel
theorem eX23_made_166 : decode cX23_made 166 = .ok (.invokevirtual 547, 3) := by decide +kernel
theorem eX23_made_169 : decode cX23_made 169 = .ok (.iinc 4 1, 3) := by decide +kernel
theorem eX23_made_172 : decode cX23_made 172 = .ok (.goto (-119), 3) := by decide +kernel
theorem eX23_made_175 : decode cX23_made 175 = .ok (.aload_n 0, 1) := by decide +kernel
theorem eX23_made_176 : decode cX23_made 176 = .ok (.invokevirtual 89, 3) := by decide +kernel
theorem eX23_made_179 : decode cX23_made 179 = .ok (.ifCond .eq 23, 3) := by decide +kernel
theorem eX23_made_182 : decode cX23_made 182 = .ok (.aload_n 1, 1) := by decide +kernel
theorem eX23_made_183 : decode cX23_made 183 = .ok (.getfield 342, 3) := by decide +kernel
theorem eX23_made_186 : decode cX23_made 186 = .ok (.aload_n 3, 1) := by decide +kernel
theorem eX23_made_187 : decode cX23_made 187 = .ok (.getfield 139, 3) := by decide +kernel
theorem eX23_made_190 : decode cX23_made 190 = .ok (.if_icmp .ge 12, 3) := by decide +kernel
theorem eX23_made_193 : decode cX23_made 193 = .ok (.aload_n 0, 1) := by decide +kernel
theorem eX23_made_194 : decode cX23_made 194 = .ok (.iconst 4, 1) := by decide +kernel
theorem eX23_made_195 : decode cX23_made 195 = .ok (.aload_n 1, 1) := by decide +kernel
theorem eX23_made_196 : decode cX23_made 196 = .ok (.getfield 350, 3) := by decide +kernel
theorem eX23_made_199 : decode cX23_made 199 = .ok (.invokevirtual 96, 3) := by decide +kernel
theorem eX23_made_202 : decode cX23_made 202 = .ok (.aload_n 0, 1) := by decide +kernel
theorem eX23_made_203 : decode cX23_made 203 = .ok (.aload_n 1, 1) := by decide +kernel
theorem eX23_made_204 : decode cX23_made 204 = .ok (.aload_n 0, 1) := by decide +kernel
theorem eX23_made_205 : decode cX23_made 205 = .ok (.iconst 3, 1) := by decide +kernel
theorem eX23_made_206 : decode cX23_made 206 = .ok (.iload_n 2, 1) := by decide +kernel
theorem eX23_made_207 : decode cX23_made 207 = .ok (.aconst_null, 1) := by decide +kernel
theorem eX23_made_208 : decode cX23_made 208 = .ok (.invokevirtual 397, 3) := by decide +kernel
theorem eX23_made_211 : decode cX23_made 211 = .ok (.invokevirtual 485, 3) := by decide +kernel
theorem eX23_made_214 : decode cX23_made 214 = .ok (.areturn, 1) := by decide +kernel
theorem eX23_call_0 : decode cX23_call 0 = .ok (.aload_n 0, 1) := by decide +kernel
theorem eX23_call_1 : decode cX23_call 1 = .ok (.aload_n 1, 1) := by decide +kernel
theorem eX23_call_2 : decode cX23_call 2 = .ok (.getfield 350, 3) := by decide +kernel
theorem eX23_call_5 : decode cX23_call 5 = .ok (.invokevirtual 413, 3) := by decide +kernel
theorem eX23_call_8 : decode cX23_call 8 = .ok (.istore_n 2, 1) := by decide +kernel
theorem eX23_call_9 : decode cX23_call 9 = .ok (.iload_n 2, 1) := by decide +kernel
theorem eX23_call_10 : decode cX23_call 10 = .ok (.ifCond .lt 17, 3) := by decide +kernel
theorem eX23_call_13 : decode cX23_call 13 = .ok (.aload_n 0, 1) := by decide +kernel
theorem eX23_call_14 : decode cX23_call 14 = .ok (.getfield 232, 3) := by decide +kernel
theorem eX23_call_17 : decode cX23_call 17 = .ok (.iload_n 2, 1) := by decide +kernel
theorem eX23_call_18 : decode cX23_call 18 = .ok (.aaload, 1) := by decide +kernel
theorem eX23_call_19 : decode cX23_call 19 = .ok (.getfield 174, 3) := by decide +kernel
theorem eX23_call_22 : decode cX23_call 22 = .ok (.bipush 12, 2) := by decide +kernel
theorem eX23_call_24 : decode cX23_call 24 = .ok (.if_icmp .eq 14, 3) := by decide +kernel
theorem eX23_call_27 : decode cX23_call 27 = .ok (.aload_n 0, 1) := by decide +kernel
theorem eX23_call_28 : decode cX23_call 28 = .ok (.aload_n 1, 1) := by decide +kernel
theorem eX23_call_29 : decode cX23_call 29 = .ok (.iconst 3, 1) := by decide +kernel
theorem eX23_call_30 : decode cX23_call 30 = .ok (.aload_n 1, 1) := by decide +kernel
theorem eX23_call_31 : decode cX23_call 31 = .ok (.getfield 350, 3) := by decide +kernel
theorem eX23_call_34 : decode cX23_call 34 = .ok (.invokevirtual 496, 3) := by decide +kernel
theorem eX23_call_37 : decode cX23_call 37 = .ok (.areturn, 1) := by decide +kernel
theorem eX23_call_38 : decode cX23_call 38 = .ok (.aload_n 0, 1) := by decide +kernel
theorem eX23_call_39 : decode cX23_call 39 = .ok (.getfield 232, 3) := by decide +kernel
theorem eX23_call_42 : decode cX23_call 42 = .ok (.iload_n 2, 1) := by decide +kernel
theorem eX23_call_43 : decode cX23_call 43 = .ok (.aaload, 1) := by decide +kernel
theorem eX23_call_44 : decode cX23_call 44 = .ok (.getfield 139, 3) := by decide +kernel
theorem eX23_call_47 : decode cX23_call 47 = .ok (.aload_n 1, 1) := by decide +kernel
theorem eX23_call_48 : decode cX23_call 48 = .ok (.getfield 342, 3) := by decide +kernel
theorem eX23_call_51 : decode cX23_call 51 = .ok (.if_icmp .eq 14, 3) := by decide +kernel
theorem eX23_call_54 : decode cX23_call 54 = .ok (.aload_n 0, 1) := by decide +kernel
theorem eX23_call_55 : decode cX23_call 55 = .ok (.aload_n 1, 1) := by decide +kernel
theorem eX23_call_56 : decode cX23_call 56 = .ok (.iconst 4, 1) := by decide +kernel
theorem eX23_call_57 : decode cX23_call 57 = .ok (.aload_n 1, 1) := by decide +kernel
theorem eX23_call_58 : decode cX23_call 58 = .ok (.getfield 350, 3) := by decide +kernel
theorem eX23_call_61 : decode cX23_call 61 = .ok (.invokevirtual 496, 3) := by decide +kernel
theorem eX23_call_64 : decode cX23_call 64 = .ok (.areturn, 1) := by decide +kernel
theorem eX23_call_65 : decode cX23_call 65 = .ok (.aload_n 1, 1) := by decide +kernel
theorem eX23_call_66 : decode cX23_call 66 = .ok (.iload_n 2, 1) := by decide +kernel
theorem eX23_call_67 : decode cX23_call 67 = .ok (.putfield 510, 3) := by decide +kernel
theorem eX23_call_70 : decode cX23_call 70 = .ok (.iconst 0, 1) := by decide +kernel
theorem eX23_call_71 : decode cX23_call 71 = .ok (.istore_n 3, 1) := by decide +kernel
theorem eX23_call_72 : decode cX23_call 72 = .ok (.iload_n 3, 1) := by decide +kernel
theorem eX23_call_73 : decode cX23_call 73 = .ok (.aload_n 1, 1) := by decide +kernel
theorem eX23_call_74 : decode cX23_call 74 = .ok (.getfield 342, 3) := by decide +kernel
theorem eX23_call_77 : decode cX23_call 77 = .ok (.if_icmp .ge 37, 3) := by decide +kernel
theorem eX23_call_80 : decode cX23_call 80 = .ok (.aload_n 0, 1) := by decide +kernel
theorem eX23_call_81 : decode cX23_call 81 = .ok (.invokevirtual 89, 3) := by decide +kernel
theorem eX23_call_84 : decode cX23_call 84 = .ok (.ifCond .eq 30, 3) := by decide +kernel
theorem eX23_call_87 : decode cX23_call 87 = .ok (.aload_n 0, 1) := by decide +kernel
theorem eX23_call_88 : decode cX23_call 88 = .ok (.aload_n 1, 1) := by decide +kernel
theorem eX23_call_89 : decode cX23_call 89 = .ok (.getfield 337, 3) := by decide +kernel
theorem eX23_call_92 : decode cX23_call 92 = .ok (.iload_n 3, 1) := by decide +kernel
theorem eX23_call_93 : decode cX23_call 93 = .ok (.aaload, 1) := by decide +kernel
theorem eX23_call_94 : decode cX23_call 94 = .ok (.aload_n 0, 1) := by decide +kernel
theorem eX23_call_95 : decode cX23_call 95 = .ok (.getfield 232, 3) := by decide +kernel
theorem eX23_call_98 : decode cX23_call 98 = .ok (.iload_n 2, 1) := by decide +kernel
theorem eX23_call_99 : decode cX23_call 99 = .ok (.aaload, 1) := by decide +kernel
theorem eX23_call_100 : decode cX23_call 100 = .ok (.getfield 175, 3) := by decide +kernel
theorem eX23_call_103 : decode cX23_call 103 = .ok (.iload_n 3, 1) := by decide +kernel
theorem eX23_call_104 : decode cX23_call 104 = .ok (.aaload, 1) := by decide +kernel
theorem eX23_call_105 : decode cX23_call 105 = .ok (.invokevirtual 547, 3) := by decide +kernel
theorem eX23_call_108 : decode cX23_call 108 = .ok (.iinc 3 1, 3) := by decide +kernel
theorem eX23_call_111 : decode cX23_call 111 = .ok (.goto (-39), 3) := by decide +kernel
theorem eX23_call_114 : decode cX23_call 114 = .ok (.aload_n 0, 1) := by decide +kernel
theorem eX23_call_115 : decode cX23_call 115 = .ok (.aload_n 1, 1) := by decide +kernel
theorem eX23_call_116 : decode cX23_call 116 = .ok (.aload_n 0, 1) := by decide +kernel
theorem eX23_call_117 : decode cX23_call 117 = .ok (.getfield 232, 3) := by decide +kernel
theorem eX23_call_120 : decode cX23_call 120 = .ok (.iload_n 2, 1) := by decide +kernel
theorem eX23_call_121 : decode cX23_call 121 = .ok (.aaload, 1) := by decide +kernel
theorem eX23_call_122 : decode cX23_call 122 = .ok (.getfield 422, 3) := by decide +kernel
theorem eX23_call_125 : decode cX23_call 125 = .ok (.invokevirtual 485, 3) := by decide +kernel
theorem eX23_call_128 : decode cX23_call 128 = .ok (.areturn, 1) := by decide +kernel
theorem eX23_box_0 : decode cX23_box 0 = .ok (.aload_n 0, 1) := by decide +kernel
theorem eX23_box_1 : decode cX23_box 1 = .ok (.aload_n 1, 1) := by decide +kernel
theorem eX23_box_2 : decode cX23_box 2 = .ok (.getfield 331, 3) := by decide +kernel
theorem eX23_box_5 : decode cX23_box 5 = .ok (.invokevirtual 523, 3) := by decide +kernel
theorem eX23_box_8 : decode cX23_box 8 = .ok (.astore_n 2, 1) := by decide +kernel
theorem eX23_box_9 : decode cX23_box 9 = .ok (.aload_n 0, 1) := by decide +kernel
theorem eX23_box_10 : decode cX23_box 10 = .ok (.invokevirtual 89, 3) := by decide +kernel
theorem eX23_box_13 : decode cX23_box 13 = .ok (.ifCond .eq 28, 3) := by decide +kernel
theorem eX23_box_16 : decode cX23_box 16 = .ok (.aload_n 2, 1) := by decide +kernel
theorem eX23_box_17 : decode cX23_box 17 = .ok (.getfield 386, 3) := by decide +kernel
theorem eX23_box_20 : decode cX23_box 20 = .ok (.bipush 8, 2) := by decide +kernel
theorem eX23_box_22 : decode cX23_box 22 = .ok (.if_icmp .eq 10, 3) := by decide +kernel
theorem eX23_box_25 : decode cX23_box 25 = .ok (.aload_n 2, 1) := by decide +kernel
theorem eX23_box_26 : decode cX23_box 26 = .ok (.invokestatic 503, 3) := by decide +kernel
theorem eX23_box_29 : decode cX23_box 29 = .ok (.ifCond .eq 12, 3) := by decide +kernel
theorem eX23_box_32 : decode cX23_box 32 = .ok (.aload_n 0, 1) := by decide +kernel
theorem eX23_box_33 : decode cX23_box 33 = .ok (.iconst 4, 1) := by decide +kernel
theorem eX23_box_34 : decode cX23_box 34 = .ok (.aload_n 1, 1) := by decide +kernel
theorem eX23_box_35 : decode cX23_box 35 = .ok (.getfield 350, 3) := by decide +kernel
theorem eX23_box_38 : decode cX23_box 38 = .ok (.invokevirtual 96, 3) := by decide +kernel
theorem eX23_box_41 : decode cX23_box 41 = .ok (.aload_n 0, 1) := by decide +kernel
theorem eX23_box_42 : decode cX23_box 42 = .ok (.aload_n 1, 1) := by decide +kernel
theorem eX23_box_43 : decode cX23_box 43 = .ok (.aload_n 0, 1) := by decide +kernel
theorem eX23_box_44 : decode cX23_box 44 = .ok (.iconst 5, 1) := by decide +kernel
theorem eX23_box_45 : decode cX23_box 45 = .ok (.iconst 0, 1) := by decide +kernel
theorem eX23_box_46 : decode cX23_box 46 = .ok (.aload_n 2, 1) := by decide +kernel
theorem eX23_box_47 : decode cX23_box 47 = .ok (.invokevirtual 397, 3) := by decide +kernel
theorem eX23_box_50 : decode cX23_box 50 = .ok (.invokevirtual 485, 3) := by decide +kernel
theorem eX23_box_53 : decode cX23_box 53 = .ok (.areturn, 1) := by decide +kernel
theorem eX23_value_0 : decode cX23_value 0 = .ok (.aload_n 0, 1) := by decide +kernel
theorem eX23_value_1 : decode cX23_value 1 = .ok (.invokevirtual 89, 3) := by decide +kernel
theorem eX23_value_4 : decode cX23_value 4 = .ok (.ifCond .ne 14, 3) := by decide +kernel
theorem eX23_value_7 : decode cX23_value 7 = .ok (.aload_n 0, 1) := by decide +kernel
theorem eX23_value_8 : decode cX23_value 8 = .ok (.aload_n 1, 1) := by decide +kernel
theorem eX23_value_9 : decode cX23_value 9 = .ok (.aload_n 0, 1) := by decide +kernel
theorem eX23_value_10 : decode cX23_value 10 = .ok (.iconst 0, 1) := by decide +kernel
theorem eX23_value_11 : decode cX23_value 11 = .ok (.invokevirtual 405, 3) := by decide +kernel
theorem eX23_value_14 : decode cX23_value 14 = .ok (.invokevirtual 485, 3) := by decide +kernel
theorem eX23_value_17 : decode cX23_value 17 = .ok (.areturn, 1) := by decide +kernel
theorem eX23_value_18 : decode cX23_value 18 = .ok (.aload_n 1, 1) := by decide +kernel
theorem eX23_value_19 : decode cX23_value 19 = .ok (.invokestatic 288, 3) := by decide +kernel
theorem eX23_value_22 : decode cX23_value 22 = .ok (.ifCond .eq 41, 3) := by decide +kernel
theorem eX23_value_25 : decode cX23_value 25 = .ok (.aload_n 0, 1) := by decide +kernel
theorem eX23_value_26 : decode cX23_value 26 = .ok (.aload_n 1, 1) := by decide +kernel
theorem eX23_value_27 : decode cX23_value 27 = .ok (.invokevirtual 489, 3) := by decide +kernel
theorem eX23_value_30 : decode cX23_value 30 = .ok (.astore_n 2, 1) := by decide +kernel
theorem eX23_value_31 : decode cX23_value 31 = .ok (.aload_n 0, 1) := by decide +kernel
theorem eX23_value_32 : decode cX23_value 32 = .ok (.invokevirtual 89, 3) := by decide +kernel
theorem eX23_value_35 : decode cX23_value 35 = .ok (.ifCond .eq 26, 3) := by decide +kernel
theorem eX23_value_38 : decode cX23_value 38 = .ok (.aload_n 2, 1) := by decide +kernel
theorem eX23_value_39 : decode cX23_value 39 = .ok (.invokestatic 517, 3) := by decide +kernel
theorem eX23_value_42 : decode cX23_value 42 = .ok (.ifCond .ne 19, 3) := by decide +kernel
theorem eX23_value_45 : decode cX23_value 45 = .ok (.aload_n 1, 1) := by decide +kernel
theorem eX23_value_46 : decode cX23_value 46 = .ok (.invokestatic 520, 3) := by decide +kernel
theorem eX23_value_49 : decode cX23_value 49 = .ok (.ifCond .ne 12, 3) := by decide +kernel
theorem eX23_value_52 : decode cX23_value 52 = .ok (.aload_n 0, 1) := by decide +kernel
theorem eX23_value_53 : decode cX23_value 53 = .ok (.iconst 4, 1) := by decide +kernel
theorem eX23_value_54 : decode cX23_value 54 = .ok (.aload_n 1, 1) := by decide +kernel
theorem eX23_value_55 : decode cX23_value 55 = .ok (.getfield 350, 3) := by decide +kernel
theorem eX23_value_58 : decode cX23_value 58 = .ok (.invokevirtual 96, 3) := by decide +kernel
theorem eX23_value_61 : decode cX23_value 61 = .ok (.aload_n 2, 1) := by decide +kernel
theorem eX23_value_62 : decode cX23_value 62 = .ok (.areturn, 1) := by decide +kernel
theorem eX23_value_63 : decode cX23_value 63 = .ok (.aload_n 1, 1) := by decide +kernel
theorem eX23_value_64 : decode cX23_value 64 = .ok (.getfield 330, 3) := by decide +kernel
theorem eX23_value_67 : decode cX23_value 67 = .ok (.tableswitch 207 0 15 #[77, 88, 207, 195, 175, 201, 207, 99, 189, 159, 167, 133, 153, 183, 113, 77], 77) := by decide +kernel
theorem eX23_value_144 : decode cX23_value 144 = .ok (.aload_n 0, 1) := by decide +kernel
theorem eX23_value_145 : decode cX23_value 145 = .ok (.aload_n 1, 1) := by decide +kernel
theorem eX23_value_146 : decode cX23_value 146 = .ok (.aload_n 0, 1) := by decide +kernel
theorem eX23_value_147 : decode cX23_value 147 = .ok (.iconst 0, 1) := by decide +kernel
theorem eX23_value_148 : decode cX23_value 148 = .ok (.invokevirtual 405, 3) := by decide +kernel
theorem eX23_value_151 : decode cX23_value 151 = .ok (.invokevirtual 485, 3) := by decide +kernel
theorem eX23_value_154 : decode cX23_value 154 = .ok (.areturn, 1) := by decide +kernel
theorem eX23_value_155 : decode cX23_value 155 = .ok (.aload_n 0, 1) := by decide +kernel
theorem eX23_value_156 : decode cX23_value 156 = .ok (.aload_n 1, 1) := by decide +kernel
theorem eX23_value_157 : decode cX23_value 157 = .ok (.aload_n 0, 1) := by decide +kernel
theorem eX23_value_158 : decode cX23_value 158 = .ok (.iconst 1, 1) := by decide +kernel
theorem eX23_value_159 : decode cX23_value 159 = .ok (.invokevirtual 405, 3) := by decide +kernel
theorem eX23_value_162 : decode cX23_value 162 = .ok (.invokevirtual 485, 3) := by decide +kernel
theorem eX23_value_165 : decode cX23_value 165 = .ok (.areturn, 1) := by decide +kernel
theorem eX23_value_166 : decode cX23_value 166 = .ok (.aload_n 0, 1) := by decide +kernel
theorem eX23_value_167 : decode cX23_value 167 = .ok (.aload_n 1, 1) := by decide +kernel
theorem eX23_value_168 : decode cX23_value 168 = .ok (.aload_n 0, 1) := by decide +kernel
theorem eX23_value_169 : decode cX23_value 169 = .ok (.aload_n 1, 1) := by decide +kernel
theorem eX23_value_170 : decode cX23_value 170 = .ok (.getfield 331, 3) := by decide +kernel
theorem eX23_value_173 : decode cX23_value 173 = .ok (.invokevirtual 523, 3) := by decide +kernel
theorem eX23_value_176 : decode cX23_value 176 = .ok (.invokevirtual 485, 3) := by decide +kernel
theorem eX23_value_179 : decode cX23_value 179 = .ok (.areturn, 1) := by decide +kernel
theorem eX23_value_180 : decode cX23_value 180 = .ok (.aload_n 0, 1) := by decide +kernel
theorem eX23_value_181 : decode cX23_value 181 = .ok (.aload_n 1, 1) := by decide +kernel
theorem eX23_value_182 : decode cX23_value 182 = .ok (.getfield 331, 3) := by decide +kernel
theorem eX23_value_185 : decode cX23_value 185 = .ok (.invokevirtual 523, 3) := by decide +kernel
theorem eX23_value_188 : decode cX23_value 188 = .ok (.pop, 1) := by decide +kernel
theorem eX23_value_189 : decode cX23_value 189 = .ok (.aload_n 0, 1) := by decide +kernel
theorem eX23_value_190 : decode cX23_value 190 = .ok (.aload_n 1, 1) := by decide +kernel
theorem eX23_value_191 : decode cX23_value 191 = .ok (.iconst 4, 1) := by decide +kernel
theorem eX23_value_192 : decode cX23_value 192 = .ok (.aload_n 1, 1) := by decide +kernel
theorem eX23_value_193 : decode cX23_value 193 = .ok (.getfield 362, 3) := by decide +kernel
theorem eX23_value_196 : decode cX23_value 196 = .ok (.invokevirtual 496, 3) := by decide +kernel
theorem eX23_value_199 : decode cX23_value 199 = .ok (.areturn, 1) := by decide +kernel
theorem eX23_value_200 : decode cX23_value 200 = .ok (.aload_n 0, 1) := by decide +kernel
theorem eX23_value_201 : decode cX23_value 201 = .ok (.aload_n 1, 1) := by decide +kernel
theorem eX23_value_202 : decode cX23_value 202 = .ok (.getfield 331, 3) := by decide +kernel
theorem eX23_value_205 : decode cX23_value 205 = .ok (.invokevirtual 523, 3) := by decide +kernel
theorem eX23_value_208 : decode cX23_value 208 = .ok (.pop, 1) := by decide +kernel
theorem eX23_value_209 : decode cX23_value 209 = .ok (.aload_n 0, 1) := by decide +kernel
theorem eX23_value_210 : decode cX23_value 210 = .ok (.aload_n 1, 1) := by decide +kernel
theorem eX23_value_211 : decode cX23_value 211 = .ok (.iconst 4, 1) := by decide +kernel
theorem eX23_value_212 : decode cX23_value 212 = .ok (.aload_n 1, 1) := by decide +kernel
theorem eX23_value_213 : decode cX23_value 213 = .ok (.getfield 350, 3) := by decide +kernel
theorem eX23_value_216 : decode cX23_value 216 = .ok (.invokevirtual 496, 3) := by decide +kernel
theorem eX23_value_219 : decode cX23_value 219 = .ok (.areturn, 1) := by decide +kernel
theorem eX23_value_220 : decode cX23_value 220 = .ok (.aload_n 0, 1) := by decide +kernel
theorem eX23_value_221 : decode cX23_value 221 = .ok (.aload_n 1, 1) := by decide +kernel
theorem eX23_value_222 : decode cX23_value 222 = .ok (.invokevirtual 526, 3) := by decide +kernel
theorem eX23_value_225 : decode cX23_value 225 = .ok (.areturn, 1) := by decide +kernel
theorem eX23_value_226 : decode cX23_value 226 = .ok (.aload_n 0, 1) := by decide +kernel
theorem eX23_value_227 : decode cX23_value 227 = .ok (.aload_n 1, 1) := by decide +kernel
theorem eX23_value_228 : decode cX23_value 228 = .ok (.iconst 1, 1) := by decide +kernel
theorem eX23_value_229 : decode cX23_value 229 = .ok (.iconst 1, 1) := by decide +kernel
theorem eX23_value_230 : decode cX23_value 230 = .ok (.invokevirtual 529, 3) := by decide +kernel
theorem eX23_value_233 : decode cX23_value 233 = .ok (.areturn, 1) := by decide +kernel
theorem eX23_value_234 : decode cX23_value 234 = .ok (.aload_n 0, 1) := by decide +kernel
theorem eX23_value_235 : decode cX23_value 235 = .ok (.aload_n 1, 1) := by decide +kernel
theorem eX23_value_236 : decode cX23_value 236 = .ok (.iconst 0, 1) := by decide +kernel
theorem eX23_value_237 : decode cX23_value 237 = .ok (.iconst 0, 1) := by decide +kernel
theorem eX23_value_238 : decode cX23_value 238 = .ok (.invokevirtual 529, 3) := by decide +kernel
theorem eX23_value_241 : decode cX23_value 241 = .ok (.areturn, 1) := by decide +kernel
theorem eX23_value_242 : decode cX23_value 242 = .ok (.aload_n 0, 1) := by decide +kernel
theorem eX23_value_243 : decode cX23_value 243 = .ok (.aload_n 1, 1) := by decide +kernel
theorem eX23_value_244 : decode cX23_value 244 = .ok (.iconst 0, 1) := by decide +kernel
theorem eX23_value_245 : decode cX23_value 245 = .ok (.iconst 2, 1) := by decide +kernel
theorem eX23_value_246 : decode cX23_value 246 = .ok (.invokevirtual 529, 3) := by decide +kernel
theorem eX23_value_249 : decode cX23_value 249 = .ok (.areturn, 1) := by decide +kernel
theorem eX23_value_250 : decode cX23_value 250 = .ok (.aload_n 0, 1) := by decide +kernel
theorem eX23_value_251 : decode cX23_value 251 = .ok (.aload_n 1, 1) := by decide +kernel
theorem eX23_value_252 : decode cX23_value 252 = .ok (.invokevirtual 532, 3) := by decide +kernel
theorem eX23_value_255 : decode cX23_value 255 = .ok (.areturn, 1) := by decide +kernel
theorem eX23_value_256 : decode cX23_value 256 = .ok (.aload_n 0, 1) := by decide +kernel
theorem eX23_value_257 : decode cX23_value 257 = .ok (.aload_n 1, 1) := by decide +kernel
theorem eX23_value_258 : decode cX23_value 258 = .ok (.invokevirtual 535, 3) := by decide +kernel
theorem eX23_value_261 : decode cX23_value 261 = .ok (.areturn, 1) := by decide +kernel
theorem eX23_value_262 : decode cX23_value 262 = .ok (.aload_n 0, 1) := by decide +kernel
theorem eX23_value_263 : decode cX23_value 263 = .ok (.aload_n 1, 1) := by decide +kernel
theorem eX23_value_264 : decode cX23_value 264 = .ok (.invokevirtual 538, 3) := by decide +kernel
theorem eX23_value_267 : decode cX23_value 267 = .ok (.areturn, 1) := by decide +kernel
theorem eX23_value_268 : decode cX23_value 268 = .ok (.aload_n 0, 1) := by decide +kernel
theorem eX23_value_269 : decode cX23_value 269 = .ok (.aload_n 1, 1) := by decide +kernel
theorem eX23_value_270 : decode cX23_value 270 = .ok (.invokevirtual 541, 3) := by decide +kernel
theorem eX23_value_273 : decode cX23_value 273 = .ok (.areturn, 1) := by decide +kernel
theorem eX23_value_274 : decode cX23_value 274 = .ok (.aload_n 0, 1) := by decide +kernel
theorem eX23_value_275 : decode cX23_value 275 = .ok (.aload_n 1, 1) := by decide +kernel
theorem eX23_value_276 : decode cX23_value 276 = .ok (.invokevirtual 544, 3) := by decide +kernel
theorem eX23_value_279 : decode cX23_value 279 = .ok (.areturn, 1) := by decide +kernel
theorem eX23_condition_0 : decode cX23_condition 0 = .ok (.aload_n 0, 1) := by decide +kernel
theorem eX23_condition_1 : decode cX23_condition 1 = .ok (.aload_n 1, 1) := by decide +kernel
theorem eX23_condition_2 : decode cX23_condition 2 = .ok (.invokevirtual 523, 3) := by decide +kernel
theorem eX23_condition_5 : decode cX23_condition 5 = .ok (.astore_n 2, 1) := by decide +kernel
theorem eX23_condition_6 : decode cX23_condition 6 = .ok (.aload_n 0, 1) := by decide +kernel
theorem eX23_condition_7 : decode cX23_condition 7 = .ok (.invokevirtual 89, 3) := by decide +kernel
theorem eX23_condition_10 : decode cX23_condition 10 = .ok (.ifCond .eq 20, 3) := by decide +kernel
theorem eX23_condition_13 : decode cX23_condition 13 = .ok (.aload_n 2, 1) := by decide +kernel
theorem eX23_condition_14 : decode cX23_condition 14 = .ok (.getfield 386, 3) := by decide +kernel
theorem eX23_condition_17 : decode cX23_condition 17 = .ok (.iconst 1, 1) := by decide +kernel
theorem eX23_condition_18 : decode cX23_condition 18 = .ok (.if_icmp .eq 12, 3) := by decide +kernel
theorem eX23_condition_21 : decode cX23_condition 21 = .ok (.aload_n 0, 1) := by decide +kernel
theorem eX23_condition_22 : decode cX23_condition 22 = .ok (.iconst 4, 1) := by decide +kernel
theorem eX23_condition_23 : decode cX23_condition 23 = .ok (.aload_n 1, 1) := by decide +kernel
theorem eX23_condition_24 : decode cX23_condition 24 = .ok (.getfield 350, 3) := by decide +kernel
theorem eX23_condition_27 : decode cX23_condition 27 = .ok (.invokevirtual 96, 3) := by decide +kernel
theorem eX23_condition_30 : decode cX23_condition 30 = .ok (.return_, 1) := by decide +kernel
theorem eX23_typeAssign_0 : decode cX23_typeAssign 0 = .ok (.aload_n 0, 1) := by decide +kernel
theorem eX23_typeAssign_1 : decode cX23_typeAssign 1 = .ok (.aload_n 1, 1) := by decide +kernel
theorem eX23_typeAssign_2 : decode cX23_typeAssign 2 = .ok (.getfield 268, 3) := by decide +kernel
theorem eX23_typeAssign_5 : decode cX23_typeAssign 5 = .ok (.invokevirtual 523, 3) := by decide +kernel
theorem eX23_typeAssign_8 : decode cX23_typeAssign 8 = .ok (.astore_n 2, 1) := by decide +kernel
theorem eX23_typeAssign_9 : decode cX23_typeAssign 9 = .ok (.aload_n 0, 1) := by decide +kernel
theorem eX23_typeAssign_10 : decode cX23_typeAssign 10 = .ok (.invokevirtual 89, 3) := by decide +kernel
theorem eX23_typeAssign_13 : decode cX23_typeAssign 13 = .ok (.ifCond .ne 4, 3) := by decide +kernel
theorem eX23_typeAssign_16 : decode cX23_typeAssign 16 = .ok (.return_, 1) := by decide +kernel
theorem eX23_typeAssign_17 : decode cX23_typeAssign 17 = .ok (.aload_n 1, 1) := by decide +kernel
theorem eX23_typeAssign_18 : decode cX23_typeAssign 18 = .ok (.getfield 292, 3) := by decide +kernel
theorem eX23_typeAssign_21 : decode cX23_typeAssign 21 = .ok (.invokestatic 480, 3) := by decide +kernel
theorem eX23_typeAssign_24 : decode cX23_typeAssign 24 = .ok (.astore_n 3, 1) := by decide +kernel
theorem eX23_typeAssign_25 : decode cX23_typeAssign 25 = .ok (.aload_n 3, 1) := by decide +kernel
theorem eX23_typeAssign_26 : decode cX23_typeAssign 26 = .ok (.getfield 330, 3) := by decide +kernel
theorem eX23_typeAssign_29 : decode cX23_typeAssign 29 = .ok (.iconst 2, 1) := by decide +kernel
theorem eX23_typeAssign_30 : decode cX23_typeAssign 30 = .ok (.if_icmp .ne 120, 3) := by decide +kernel
theorem eX23_typeAssign_33 : decode cX23_typeAssign 33 = .ok (.iconst 0, 1) := by decide +kernel
theorem eX23_typeAssign_34 : decode cX23_typeAssign 34 = .ok (.istore 4, 2) := by decide +kernel
theorem eX23_typeAssign_36 : decode cX23_typeAssign 36 = .ok (.iload 4, 2) := by decide +kernel
theorem eX23_typeAssign_38 : decode cX23_typeAssign 38 = .ok (.aload_n 0, 1) := by decide +kernel
theorem eX23_typeAssign_39 : decode cX23_typeAssign 39 = .ok (.getfield 477, 3) := by decide +kernel
theorem eX23_typeAssign_42 : decode cX23_typeAssign 42 = .ok (.if_icmp .ge 41, 3) := by decide +kernel
theorem eX23_typeAssign_45 : decode cX23_typeAssign 45 = .ok (.aload_n 0, 1) := by decide +kernel
theorem eX23_typeAssign_46 : decode cX23_typeAssign 46 = .ok (.aload_n 0, 1) := by decide +kernel
theorem eX23_typeAssign_47 : decode cX23_typeAssign 47 = .ok (.getfield 474, 3) := by decide +kernel
theorem eX23_typeAssign_50 : decode cX23_typeAssign 50 = .ok (.iload 4, 2) := by decide +kernel
theorem eX23_typeAssign_52 : decode cX23_typeAssign 52 = .ok (.aaload, 1) := by decide +kernel
theorem eX23_typeAssign_53 : decode cX23_typeAssign 53 = .ok (.getfield 470, 3) := by decide +kernel
theorem eX23_typeAssign_56 : decode cX23_typeAssign 56 = .ok (.aload_n 3, 1) := by decide +kernel
theorem eX23_typeAssign_57 : decode cX23_typeAssign 57 = .ok (.getfield 362, 3) := by decide +kernel
theorem eX23_typeAssign_60 : decode cX23_typeAssign 60 = .ok (.invokevirtual 401, 3) := by decide +kernel
theorem eX23_typeAssign_63 : decode cX23_typeAssign 63 = .ok (.ifCond .eq 14, 3) := by decide +kernel
theorem eX23_typeAssign_66 : decode cX23_typeAssign 66 = .ok (.aload_n 3, 1) := by decide +kernel
theorem eX23_typeAssign_67 : decode cX23_typeAssign 67 = .ok (.aload_n 0, 1) := by decide +kernel
theorem eX23_typeAssign_68 : decode cX23_typeAssign 68 = .ok (.getfield 474, 3) := by decide +kernel
theorem eX23_typeAssign_71 : decode cX23_typeAssign 71 = .ok (.iload 4, 2) := by decide +kernel
theorem eX23_typeAssign_73 : decode cX23_typeAssign 73 = .ok (.aaload, 1) := by decide +kernel
theorem eX23_typeAssign_74 : decode cX23_typeAssign 74 = .ok (.putfield 492, 3) := by decide +kernel
theorem eX23_typeAssign_77 : decode cX23_typeAssign 77 = .ok (.iinc 4 1, 3) := by decide +kernel
theorem eX23_typeAssign_80 : decode cX23_typeAssign 80 = .ok (.goto (-44), 3) := by decide +kernel
theorem eX23_typeAssign_83 : decode cX23_typeAssign 83 = .ok (.aload_n 3, 1) := by decide +kernel
theorem eX23_typeAssign_84 : decode cX23_typeAssign 84 = .ok (.getfield 492, 3) := by decide +kernel
theorem eX23_typeAssign_87 : decode cX23_typeAssign 87 = .ok (.ifnull 33, 3) := by decide +kernel
theorem eX23_typeAssign_90 : decode cX23_typeAssign 90 = .ok (.aload_n 3, 1) := by decide +kernel
theorem eX23_typeAssign_91 : decode cX23_typeAssign 91 = .ok (.getfield 492, 3) := by decide +kernel
theorem eX23_typeAssign_94 : decode cX23_typeAssign 94 = .ok (.getfield 471, 3) := by decide +kernel
theorem eX23_typeAssign_97 : decode cX23_typeAssign 97 = .ok (.ifnonnull 23, 3) := by decide +kernel
theorem eX23_typeAssign_100 : decode cX23_typeAssign 100 = .ok (.aload_n 2, 1) := by decide +kernel
theorem eX23_typeAssign_101 : decode cX23_typeAssign 101 = .ok (.getfield 386, 3) := by decide +kernel
theorem eX23_typeAssign_104 : decode cX23_typeAssign 104 = .ok (.bipush 8, 2) := by decide +kernel
theorem eX23_typeAssign_106 : decode cX23_typeAssign 106 = .ok (.if_icmp .eq 14, 3) := by decide +kernel
theorem eX23_typeAssign_109 : decode cX23_typeAssign 109 = .ok (.aload_n 3, 1) := by decide +kernel
theorem eX23_typeAssign_110 : decode cX23_typeAssign 110 = .ok (.getfield 492, 3) := by decide +kernel
theorem eX23_typeAssign_113 : decode cX23_typeAssign 113 = .ok (.aload_n 2, 1) := by decide +kernel
theorem eX23_typeAssign_114 : decode cX23_typeAssign 114 = .ok (.putfield 471, 3) := by decide +kernel
theorem eX23_typeAssign_117 : decode cX23_typeAssign 117 = .ok (.goto 33, 3) := by decide +kernel
theorem eX23_typeAssign_120 : decode cX23_typeAssign 120 = .ok (.aload_n 3, 1) := by decide +kernel
theorem eX23_typeAssign_121 : decode cX23_typeAssign 121 = .ok (.getfield 492, 3) := by decide +kernel
theorem eX23_typeAssign_124 : decode cX23_typeAssign 124 = .ok (.ifnull 26, 3) := by decide +kernel
theorem eX23_typeAssign_127 : decode cX23_typeAssign 127 = .ok (.aload_n 3, 1) := by decide +kernel
theorem eX23_typeAssign_128 : decode cX23_typeAssign 128 = .ok (.getfield 492, 3) := by decide +kernel
theorem eX23_typeAssign_131 : decode cX23_typeAssign 131 = .ok (.getfield 471, 3) := by decide +kernel
theorem eX23_typeAssign_134 : decode cX23_typeAssign 134 = .ok (.ifnonnull 16, 3) := by decide +kernel
theorem eX23_typeAssign_137 : decode cX23_typeAssign 137 = .ok (.aload_n 0, 1) := by decide +kernel
theorem eX23_typeAssign_138 : decode cX23_typeAssign 138 = .ok (.iconst 4, 1) := by decide +kernel
theorem eX23_typeAssign_139 : decode cX23_typeAssign 139 = .ok (.aload_n 1, 1) := by decide +kernel
theorem eX23_typeAssign_140 : decode cX23_typeAssign 140 = .ok (.getfield 268, 3) := by decide +kernel
theorem eX23_typeAssign_143 : decode cX23_typeAssign 143 = .ok (.getfield 350, 3) := by decide +kernel
theorem eX23_typeAssign_146 : decode cX23_typeAssign 146 = .ok (.invokevirtual 96, 3) := by decide +kernel
theorem eX23_typeAssign_149 : decode cX23_typeAssign 149 = .ok (.return_, 1) := by decide +kernel
theorem eX23_typeAssign_150 : decode cX23_typeAssign 150 = .ok (.aload_n 0, 1) := by decide +kernel
theorem eX23_typeAssign_151 : decode cX23_typeAssign 151 = .ok (.aload_n 1, 1) := by decide +kernel
theorem eX23_typeAssign_152 : decode cX23_typeAssign 152 = .ok (.getfield 292, 3) := by decide +kernel
theorem eX23_typeAssign_155 : decode cX23_typeAssign 155 = .ok (.invokevirtual 489, 3) := by decide +kernel
theorem eX23_typeAssign_158 : decode cX23_typeAssign 158 = .ok (.astore 4, 2) := by decide +kernel
theorem eX23_typeAssign_160 : decode cX23_typeAssign 160 = .ok (.aload_n 0, 1) := by decide +kernel
theorem eX23_typeAssign_161 : decode cX23_typeAssign 161 = .ok (.invokevirtual 89, 3) := by decide +kernel
theorem eX23_typeAssign_164 : decode cX23_typeAssign 164 = .ok (.ifCond .eq 21, 3) := by decide +kernel
theorem eX23_typeAssign_167 : decode cX23_typeAssign 167 = .ok (.aload 4, 2) := by decide +kernel
theorem eX23_typeAssign_169 : decode cX23_typeAssign 169 = .ok (.aload_n 2, 1) := by decide +kernel
theorem eX23_typeAssign_170 : decode cX23_typeAssign 170 = .ok (.if_acmp .eq 15, 3) := by decide +kernel
theorem eX23_typeAssign_173 : decode cX23_typeAssign 173 = .ok (.aload_n 0, 1) := by decide +kernel
theorem eX23_typeAssign_174 : decode cX23_typeAssign 174 = .ok (.iconst 4, 1) := by decide +kernel
theorem eX23_typeAssign_175 : decode cX23_typeAssign 175 = .ok (.aload_n 1, 1) := by decide +kernel
theorem eX23_typeAssign_176 : decode cX23_typeAssign 176 = .ok (.getfield 268, 3) := by decide +kernel
theorem eX23_typeAssign_179 : decode cX23_typeAssign 179 = .ok (.getfield 350, 3) := by decide +kernel
theorem eX23_typeAssign_182 : decode cX23_typeAssign 182 = .ok (.invokevirtual 96, 3) := by decide +kernel
theorem eX23_typeAssign_185 : decode cX23_typeAssign 185 = .ok (.aload_n 0, 1) := by decide +kernel
theorem eX23_typeAssign_186 : decode cX23_typeAssign 186 = .ok (.invokevirtual 89, 3) := by decide +kernel
theorem eX23_typeAssign_189 : decode cX23_typeAssign 189 = .ok (.ifCond .eq 31, 3) := by decide +kernel
theorem eX23_typeAssign_192 : decode cX23_typeAssign 192 = .ok (.aload_n 3, 1) := by decide +kernel
theorem eX23_typeAssign_193 : decode cX23_typeAssign 193 = .ok (.getfield 330, 3) := by decide +kernel
theorem eX23_typeAssign_196 : decode cX23_typeAssign 196 = .ok (.iconst 2, 1) := by decide +kernel
theorem eX23_typeAssign_197 : decode cX23_typeAssign 197 = .ok (.if_icmp .eq 23, 3) := by decide +kernel
theorem eX23_typeAssign_200 : decode cX23_typeAssign 200 = .ok (.aload_n 0, 1) := by decide +kernel
theorem eX23_typeAssign_201 : decode cX23_typeAssign 201 = .ok (.aload_n 3, 1) := by decide +kernel
theorem eX23_typeAssign_202 : decode cX23_typeAssign 202 = .ok (.invokevirtual 514, 3) := by decide +kernel
theorem eX23_typeAssign_205 : decode cX23_typeAssign 205 = .ok (.ifCond .ne 15, 3) := by decide +kernel
theorem eX23_typeAssign_208 : decode cX23_typeAssign 208 = .ok (.aload_n 0, 1) := by decide +kernel
theorem eX23_typeAssign_209 : decode cX23_typeAssign 209 = .ok (.iconst 4, 1) := by decide +kernel
theorem eX23_typeAssign_210 : decode cX23_typeAssign 210 = .ok (.aload_n 1, 1) := by decide +kernel
theorem eX23_typeAssign_211 : decode cX23_typeAssign 211 = .ok (.getfield 292, 3) := by decide +kernel
theorem eX23_typeAssign_214 : decode cX23_typeAssign 214 = .ok (.getfield 350, 3) := by decide +kernel
theorem eX23_typeAssign_217 : decode cX23_typeAssign 217 = .ok (.invokevirtual 96, 3) := by decide +kernel
theorem eX23_typeAssign_220 : decode cX23_typeAssign 220 = .ok (.return_, 1) := by decide +kernel
theorem eX23_typeLet_0 : decode cX23_typeLet 0 = .ok (.aload_n 1, 1) := by decide +kernel
theorem eX23_typeLet_1 : decode cX23_typeLet 1 = .ok (.getfield 286, 3) := by decide +kernel
theorem eX23_typeLet_4 : decode cX23_typeLet 4 = .ok (.ifnonnull 7, 3) := by decide +kernel
theorem eX23_typeLet_7 : decode cX23_typeLet 7 = .ok (.aconst_null, 1) := by decide +kernel
theorem eX23_typeLet_8 : decode cX23_typeLet 8 = .ok (.goto 12, 3) := by decide +kernel
theorem eX23_typeLet_11 : decode cX23_typeLet 11 = .ok (.aload_n 0, 1) := by decide +kernel
theorem eX23_typeLet_12 : decode cX23_typeLet 12 = .ok (.aload_n 1, 1) := by decide +kernel
theorem eX23_typeLet_13 : decode cX23_typeLet 13 = .ok (.getfield 286, 3) := by decide +kernel
theorem eX23_typeLet_16 : decode cX23_typeLet 16 = .ok (.iconst 1, 1) := by decide +kernel
theorem eX23_typeLet_17 : decode cX23_typeLet 17 = .ok (.invokevirtual 409, 3) := by decide +kernel
theorem eX23_typeLet_20 : decode cX23_typeLet 20 = .ok (.astore_n 2, 1) := by decide +kernel
theorem eX23_typeLet_21 : decode cX23_typeLet 21 = .ok (.aload_n 1, 1) := by decide +kernel
theorem eX23_typeLet_22 : decode cX23_typeLet 22 = .ok (.getfield 286, 3) := by decide +kernel
theorem eX23_typeLet_25 : decode cX23_typeLet 25 = .ok (.ifnull 11, 3) := by decide +kernel
theorem eX23_typeLet_28 : decode cX23_typeLet 28 = .ok (.aload_n 0, 1) := by decide +kernel
theorem eX23_typeLet_29 : decode cX23_typeLet 29 = .ok (.aload_n 1, 1) := by decide +kernel
theorem eX23_typeLet_30 : decode cX23_typeLet 30 = .ok (.getfield 286, 3) := by decide +kernel
theorem eX23_typeLet_33 : decode cX23_typeLet 33 = .ok (.invokevirtual 579, 3) := by decide +kernel
theorem eX23_typeLet_36 : decode cX23_typeLet 36 = .ok (.aload_n 0, 1) := by decide +kernel
theorem eX23_typeLet_37 : decode cX23_typeLet 37 = .ok (.invokevirtual 89, 3) := by decide +kernel
theorem eX23_typeLet_40 : decode cX23_typeLet 40 = .ok (.ifCond .eq 61, 3) := by decide +kernel
theorem eX23_typeLet_43 : decode cX23_typeLet 43 = .ok (.aload_n 1, 1) := by decide +kernel
theorem eX23_typeLet_44 : decode cX23_typeLet 44 = .ok (.getfield 268, 3) := by decide +kernel
theorem eX23_typeLet_47 : decode cX23_typeLet 47 = .ok (.ifnull 54, 3) := by decide +kernel
theorem eX23_typeLet_50 : decode cX23_typeLet 50 = .ok (.aload_n 0, 1) := by decide +kernel
theorem eX23_typeLet_51 : decode cX23_typeLet 51 = .ok (.aload_n 1, 1) := by decide +kernel
theorem eX23_typeLet_52 : decode cX23_typeLet 52 = .ok (.getfield 268, 3) := by decide +kernel
theorem eX23_typeLet_55 : decode cX23_typeLet 55 = .ok (.invokevirtual 523, 3) := by decide +kernel
theorem eX23_typeLet_58 : decode cX23_typeLet 58 = .ok (.astore_n 3, 1) := by decide +kernel
theorem eX23_typeLet_59 : decode cX23_typeLet 59 = .ok (.aload_n 0, 1) := by decide +kernel
theorem eX23_typeLet_60 : decode cX23_typeLet 60 = .ok (.invokevirtual 89, 3) := by decide +kernel
theorem eX23_typeLet_63 : decode cX23_typeLet 63 = .ok (.ifCond .eq 36, 3) := by decide +kernel
theorem eX23_typeLet_66 : decode cX23_typeLet 66 = .ok (.aload_n 2, 1) := by decide +kernel
theorem eX23_typeLet_67 : decode cX23_typeLet 67 = .ok (.ifnonnull 15, 3) := by decide +kernel
theorem eX23_typeLet_70 : decode cX23_typeLet 70 = .ok (.aload_n 3, 1) := by decide +kernel
theorem eX23_typeLet_71 : decode cX23_typeLet 71 = .ok (.getfield 386, 3) := by decide +kernel
theorem eX23_typeLet_74 : decode cX23_typeLet 74 = .ok (.bipush 8, 2) := by decide +kernel
theorem eX23_typeLet_76 : decode cX23_typeLet 76 = .ok (.if_icmp .ne 23, 3) := by decide +kernel
theorem eX23_typeLet_79 : decode cX23_typeLet 79 = .ok (.goto 8, 3) := by decide +kernel
theorem eX23_typeLet_82 : decode cX23_typeLet 82 = .ok (.aload_n 3, 1) := by decide +kernel
theorem eX23_typeLet_83 : decode cX23_typeLet 83 = .ok (.aload_n 2, 1) := by decide +kernel
theorem eX23_typeLet_84 : decode cX23_typeLet 84 = .ok (.if_acmp .eq 15, 3) := by decide +kernel
theorem eX23_typeLet_87 : decode cX23_typeLet 87 = .ok (.aload_n 0, 1) := by decide +kernel
theorem eX23_typeLet_88 : decode cX23_typeLet 88 = .ok (.iconst 4, 1) := by decide +kernel
theorem eX23_typeLet_89 : decode cX23_typeLet 89 = .ok (.aload_n 1, 1) := by decide +kernel
theorem eX23_typeLet_90 : decode cX23_typeLet 90 = .ok (.getfield 268, 3) := by decide +kernel
theorem eX23_typeLet_93 : decode cX23_typeLet 93 = .ok (.getfield 350, 3) := by decide +kernel
theorem eX23_typeLet_96 : decode cX23_typeLet 96 = .ok (.invokevirtual 96, 3) := by decide +kernel
theorem eX23_typeLet_99 : decode cX23_typeLet 99 = .ok (.aload_n 3, 1) := by decide +kernel
theorem eX23_typeLet_100 : decode cX23_typeLet 100 = .ok (.astore_n 2, 1) := by decide +kernel
theorem eX23_typeLet_101 : decode cX23_typeLet 101 = .ok (.aload_n 0, 1) := by decide +kernel
theorem eX23_typeLet_102 : decode cX23_typeLet 102 = .ok (.invokevirtual 89, 3) := by decide +kernel
theorem eX23_typeLet_105 : decode cX23_typeLet 105 = .ok (.ifCond .eq 20, 3) := by decide +kernel
theorem eX23_typeLet_108 : decode cX23_typeLet 108 = .ok (.aload_n 1, 1) := by decide +kernel
theorem eX23_typeLet_109 : decode cX23_typeLet 109 = .ok (.aload_n 0, 1) := by decide +kernel
theorem eX23_typeLet_110 : decode cX23_typeLet 110 = .ok (.aload_n 1, 1) := by decide +kernel
theorem eX23_typeLet_111 : decode cX23_typeLet 111 = .ok (.getfield 285, 3) := by decide +kernel
theorem eX23_typeLet_114 : decode cX23_typeLet 114 = .ok (.aload_n 2, 1) := by decide +kernel
theorem eX23_typeLet_115 : decode cX23_typeLet 115 = .ok (.aload_n 1, 1) := by decide +kernel
theorem eX23_typeLet_116 : decode cX23_typeLet 116 = .ok (.getfield 278, 3) := by decide +kernel
theorem eX23_typeLet_119 : decode cX23_typeLet 119 = .ok (.invokevirtual 583, 3) := by decide +kernel
theorem eX23_typeLet_122 : decode cX23_typeLet 122 = .ok (.putfield 587, 3) := by decide +kernel
theorem eX23_typeLet_125 : decode cX23_typeLet 125 = .ok (.return_, 1) := by decide +kernel
theorem eX23_typeReturn_0 : decode cX23_typeReturn 0 = .ok (.aload_n 1, 1) := by decide +kernel
theorem eX23_typeReturn_1 : decode cX23_typeReturn 1 = .ok (.getfield 268, 3) := by decide +kernel
theorem eX23_typeReturn_4 : decode cX23_typeReturn 4 = .ok (.ifnonnull 28, 3) := by decide +kernel
theorem eX23_typeReturn_7 : decode cX23_typeReturn 7 = .ok (.aload_n 0, 1) := by decide +kernel
theorem eX23_typeReturn_8 : decode cX23_typeReturn 8 = .ok (.getfield 588, 3) := by decide +kernel
theorem eX23_typeReturn_11 : decode cX23_typeReturn 11 = .ok (.getfield 422, 3) := by decide +kernel
theorem eX23_typeReturn_14 : decode cX23_typeReturn 14 = .ok (.getfield 386, 3) := by decide +kernel
theorem eX23_typeReturn_17 : decode cX23_typeReturn 17 = .ok (.bipush 8, 2) := by decide +kernel
theorem eX23_typeReturn_19 : decode cX23_typeReturn 19 = .ok (.if_icmp .eq 12, 3) := by decide +kernel
theorem eX23_typeReturn_22 : decode cX23_typeReturn 22 = .ok (.aload_n 0, 1) := by decide +kernel
theorem eX23_typeReturn_23 : decode cX23_typeReturn 23 = .ok (.iconst 4, 1) := by decide +kernel
theorem eX23_typeReturn_24 : decode cX23_typeReturn 24 = .ok (.aload_n 1, 1) := by decide +kernel
theorem eX23_typeReturn_25 : decode cX23_typeReturn 25 = .ok (.getfield 255, 3) := by decide +kernel
theorem eX23_typeReturn_28 : decode cX23_typeReturn 28 = .ok (.invokevirtual 96, 3) := by decide +kernel
theorem eX23_typeReturn_31 : decode cX23_typeReturn 31 = .ok (.return_, 1) := by decide +kernel
theorem eX23_typeReturn_32 : decode cX23_typeReturn 32 = .ok (.aload_n 0, 1) := by decide +kernel
theorem eX23_typeReturn_33 : decode cX23_typeReturn 33 = .ok (.aload_n 1, 1) := by decide +kernel
theorem eX23_typeReturn_34 : decode cX23_typeReturn 34 = .ok (.getfield 268, 3) := by decide +kernel
theorem eX23_typeReturn_37 : decode cX23_typeReturn 37 = .ok (.invokevirtual 523, 3) := by decide +kernel
theorem eX23_typeReturn_40 : decode cX23_typeReturn 40 = .ok (.astore_n 2, 1) := by decide +kernel
theorem eX23_typeReturn_41 : decode cX23_typeReturn 41 = .ok (.aload_n 0, 1) := by decide +kernel
theorem eX23_typeReturn_42 : decode cX23_typeReturn 42 = .ok (.invokevirtual 89, 3) := by decide +kernel
theorem eX23_typeReturn_45 : decode cX23_typeReturn 45 = .ok (.ifCond .eq 35, 3) := by decide +kernel
theorem eX23_typeReturn_48 : decode cX23_typeReturn 48 = .ok (.aload_n 2, 1) := by decide +kernel
theorem eX23_typeReturn_49 : decode cX23_typeReturn 49 = .ok (.aload_n 0, 1) := by decide +kernel
theorem eX23_typeReturn_50 : decode cX23_typeReturn 50 = .ok (.getfield 588, 3) := by decide +kernel
theorem eX23_typeReturn_53 : decode cX23_typeReturn 53 = .ok (.getfield 422, 3) := by decide +kernel
theorem eX23_typeReturn_56 : decode cX23_typeReturn 56 = .ok (.if_acmp .ne 12, 3) := by decide +kernel
theorem eX23_typeReturn_59 : decode cX23_typeReturn 59 = .ok (.aload_n 2, 1) := by decide +kernel
theorem eX23_typeReturn_60 : decode cX23_typeReturn 60 = .ok (.getfield 386, 3) := by decide +kernel
theorem eX23_typeReturn_63 : decode cX23_typeReturn 63 = .ok (.bipush 8, 2) := by decide +kernel
theorem eX23_typeReturn_65 : decode cX23_typeReturn 65 = .ok (.if_icmp .ne 15, 3) := by decide +kernel
theorem eX23_typeReturn_68 : decode cX23_typeReturn 68 = .ok (.aload_n 0, 1) := by decide +kernel
theorem eX23_typeReturn_69 : decode cX23_typeReturn 69 = .ok (.iconst 4, 1) := by decide +kernel
theorem eX23_typeReturn_70 : decode cX23_typeReturn 70 = .ok (.aload_n 1, 1) := by decide +kernel
theorem eX23_typeReturn_71 : decode cX23_typeReturn 71 = .ok (.getfield 268, 3) := by decide +kernel
theorem eX23_typeReturn_74 : decode cX23_typeReturn 74 = .ok (.getfield 350, 3) := by decide +kernel
theorem eX23_typeReturn_77 : decode cX23_typeReturn 77 = .ok (.invokevirtual 96, 3) := by decide +kernel
theorem eX23_typeReturn_80 : decode cX23_typeReturn 80 = .ok (.return_, 1) := by decide +kernel
theorem eX23_typeArm_0 : decode cX23_typeArm 0 = .ok (.aload_n 0, 1) := by decide +kernel
theorem eX23_typeArm_1 : decode cX23_typeArm 1 = .ok (.getfield 477, 3) := by decide +kernel
theorem eX23_typeArm_4 : decode cX23_typeArm 4 = .ok (.istore 4, 2) := by decide +kernel
theorem eX23_typeArm_6 : decode cX23_typeArm 6 = .ok (.iconst 0, 1) := by decide +kernel
theorem eX23_typeArm_7 : decode cX23_typeArm 7 = .ok (.istore 5, 2) := by decide +kernel
theorem eX23_typeArm_9 : decode cX23_typeArm 9 = .ok (.iload 5, 2) := by decide +kernel
theorem eX23_typeArm_11 : decode cX23_typeArm 11 = .ok (.aload_n 2, 1) := by decide +kernel
theorem eX23_typeArm_12 : decode cX23_typeArm 12 = .ok (.getfield 327, 3) := by decide +kernel
theorem eX23_typeArm_15 : decode cX23_typeArm 15 = .ok (.if_icmp .ge 71, 3) := by decide +kernel
theorem eX23_typeArm_18 : decode cX23_typeArm 18 = .ok (.aload_n 2, 1) := by decide +kernel
theorem eX23_typeArm_19 : decode cX23_typeArm 19 = .ok (.getfield 596, 3) := by decide +kernel
theorem eX23_typeArm_22 : decode cX23_typeArm 22 = .ok (.iload 5, 2) := by decide +kernel
theorem eX23_typeArm_24 : decode cX23_typeArm 24 = .ok (.aload_n 0, 1) := by decide +kernel
theorem eX23_typeArm_25 : decode cX23_typeArm 25 = .ok (.aload_n 2, 1) := by decide +kernel
theorem eX23_typeArm_26 : decode cX23_typeArm 26 = .ok (.getfield 328, 3) := by decide +kernel
theorem eX23_typeArm_29 : decode cX23_typeArm 29 = .ok (.iload 5, 2) := by decide +kernel
theorem eX23_typeArm_31 : decode cX23_typeArm 31 = .ok (.iaload, 1) := by decide +kernel
theorem eX23_typeArm_32 : decode cX23_typeArm 32 = .ok (.aload_n 1, 1) := by decide +kernel
theorem eX23_typeArm_33 : decode cX23_typeArm 33 = .ok (.getfield 312, 3) := by decide +kernel
theorem eX23_typeArm_36 : decode cX23_typeArm 36 = .ok (.ifCond .eq 32, 3) := by decide +kernel
theorem eX23_typeArm_39 : decode cX23_typeArm 39 = .ok (.aload_n 0, 1) := by decide +kernel
theorem eX23_typeArm_40 : decode cX23_typeArm 40 = .ok (.aload_n 1, 1) := by decide +kernel
theorem eX23_typeArm_41 : decode cX23_typeArm 41 = .ok (.getfield 278, 3) := by decide +kernel
theorem eX23_typeArm_44 : decode cX23_typeArm 44 = .ok (.ifCond .eq 8, 3) := by decide +kernel
theorem eX23_typeArm_47 : decode cX23_typeArm 47 = .ok (.bipush 7, 2) := by decide +kernel
theorem eX23_typeArm_49 : decode cX23_typeArm 49 = .ok (.goto 5, 3) := by decide +kernel
theorem eX23_typeArm_52 : decode cX23_typeArm 52 = .ok (.bipush 6, 2) := by decide +kernel
theorem eX23_typeArm_54 : decode cX23_typeArm 54 = .ok (.iconst 0, 1) := by decide +kernel
theorem eX23_typeArm_55 : decode cX23_typeArm 55 = .ok (.aload_n 3, 1) := by decide +kernel
theorem eX23_typeArm_56 : decode cX23_typeArm 56 = .ok (.getfield 166, 3) := by decide +kernel
theorem eX23_typeArm_59 : decode cX23_typeArm 59 = .ok (.iload 5, 2) := by decide +kernel
theorem eX23_typeArm_61 : decode cX23_typeArm 61 = .ok (.aaload, 1) := by decide +kernel
theorem eX23_typeArm_62 : decode cX23_typeArm 62 = .ok (.invokevirtual 397, 3) := by decide +kernel
theorem eX23_typeArm_65 : decode cX23_typeArm 65 = .ok (.goto 10, 3) := by decide +kernel
theorem eX23_typeArm_68 : decode cX23_typeArm 68 = .ok (.aload_n 3, 1) := by decide +kernel
theorem eX23_typeArm_69 : decode cX23_typeArm 69 = .ok (.getfield 166, 3) := by decide +kernel
theorem eX23_typeArm_72 : decode cX23_typeArm 72 = .ok (.iload 5, 2) := by decide +kernel
theorem eX23_typeArm_74 : decode cX23_typeArm 74 = .ok (.aaload, 1) := by decide +kernel
theorem eX23_typeArm_75 : decode cX23_typeArm 75 = .ok (.iconst 0, 1) := by decide +kernel
theorem eX23_typeArm_76 : decode cX23_typeArm 76 = .ok (.invokevirtual 583, 3) := by decide +kernel
theorem eX23_typeArm_79 : decode cX23_typeArm 79 = .ok (.aastore, 1) := by decide +kernel
theorem eX23_typeArm_80 : decode cX23_typeArm 80 = .ok (.iinc 5 1, 3) := by decide +kernel
theorem eX23_typeArm_83 : decode cX23_typeArm 83 = .ok (.goto (-74), 3) := by decide +kernel
theorem eX23_typeArm_86 : decode cX23_typeArm 86 = .ok (.aload_n 0, 1) := by decide +kernel
theorem eX23_typeArm_87 : decode cX23_typeArm 87 = .ok (.aload_n 2, 1) := by decide +kernel
theorem eX23_typeArm_88 : decode cX23_typeArm 88 = .ok (.getfield 329, 3) := by decide +kernel
theorem eX23_typeArm_91 : decode cX23_typeArm 91 = .ok (.invokevirtual 569, 3) := by decide +kernel
theorem eX23_typeArm_94 : decode cX23_typeArm 94 = .ok (.aload_n 0, 1) := by decide +kernel
theorem eX23_typeArm_95 : decode cX23_typeArm 95 = .ok (.iload 4, 2) := by decide +kernel
theorem eX23_typeArm_97 : decode cX23_typeArm 97 = .ok (.putfield 477, 3) := by decide +kernel
theorem eX23_typeArm_100 : decode cX23_typeArm 100 = .ok (.return_, 1) := by decide +kernel
theorem eX23_typeMatch_0 : decode cX23_typeMatch 0 = .ok (.aload_n 1, 1) := by decide +kernel
theorem eX23_typeMatch_1 : decode cX23_typeMatch 1 = .ok (.getfield 312, 3) := by decide +kernel
theorem eX23_typeMatch_4 : decode cX23_typeMatch 4 = .ok (.ifCond .eq 14, 3) := by decide +kernel
theorem eX23_typeMatch_7 : decode cX23_typeMatch 7 = .ok (.aload_n 0, 1) := by decide +kernel
theorem eX23_typeMatch_8 : decode cX23_typeMatch 8 = .ok (.aload_n 1, 1) := by decide +kernel
theorem eX23_typeMatch_9 : decode cX23_typeMatch 9 = .ok (.getfield 268, 3) := by decide +kernel
theorem eX23_typeMatch_12 : decode cX23_typeMatch 12 = .ok (.invokevirtual 489, 3) := by decide +kernel
theorem eX23_typeMatch_15 : decode cX23_typeMatch 15 = .ok (.goto 11, 3) := by decide +kernel
theorem eX23_typeMatch_18 : decode cX23_typeMatch 18 = .ok (.aload_n 0, 1) := by decide +kernel
theorem eX23_typeMatch_19 : decode cX23_typeMatch 19 = .ok (.aload_n 1, 1) := by decide +kernel
theorem eX23_typeMatch_20 : decode cX23_typeMatch 20 = .ok (.getfield 268, 3) := by decide +kernel
theorem eX23_typeMatch_23 : decode cX23_typeMatch 23 = .ok (.invokevirtual 523, 3) := by decide +kernel
theorem eX23_typeMatch_26 : decode cX23_typeMatch 26 = .ok (.astore_n 2, 1) := by decide +kernel
theorem eX23_typeMatch_27 : decode cX23_typeMatch 27 = .ok (.aload_n 0, 1) := by decide +kernel
theorem eX23_typeMatch_28 : decode cX23_typeMatch 28 = .ok (.invokevirtual 89, 3) := by decide +kernel
theorem eX23_typeMatch_31 : decode cX23_typeMatch 31 = .ok (.ifCond .eq 23, 3) := by decide +kernel
theorem eX23_typeMatch_34 : decode cX23_typeMatch 34 = .ok (.aload_n 2, 1) := by decide +kernel
theorem eX23_typeMatch_35 : decode cX23_typeMatch 35 = .ok (.getfield 386, 3) := by decide +kernel
theorem eX23_typeMatch_38 : decode cX23_typeMatch 38 = .ok (.iconst 4, 1) := by decide +kernel
theorem eX23_typeMatch_39 : decode cX23_typeMatch 39 = .ok (.if_icmp .eq 15, 3) := by decide +kernel
theorem eX23_typeMatch_42 : decode cX23_typeMatch 42 = .ok (.aload_n 0, 1) := by decide +kernel
theorem eX23_typeMatch_43 : decode cX23_typeMatch 43 = .ok (.iconst 4, 1) := by decide +kernel
theorem eX23_typeMatch_44 : decode cX23_typeMatch 44 = .ok (.aload_n 1, 1) := by decide +kernel
theorem eX23_typeMatch_45 : decode cX23_typeMatch 45 = .ok (.getfield 268, 3) := by decide +kernel
theorem eX23_typeMatch_48 : decode cX23_typeMatch 48 = .ok (.getfield 350, 3) := by decide +kernel
theorem eX23_typeMatch_51 : decode cX23_typeMatch 51 = .ok (.invokevirtual 96, 3) := by decide +kernel
theorem eX23_typeMatch_54 : decode cX23_typeMatch 54 = .ok (.aload_n 0, 1) := by decide +kernel
theorem eX23_typeMatch_55 : decode cX23_typeMatch 55 = .ok (.invokevirtual 89, 3) := by decide +kernel
theorem eX23_typeMatch_58 : decode cX23_typeMatch 58 = .ok (.ifCond .eq 40, 3) := by decide +kernel
theorem eX23_typeMatch_61 : decode cX23_typeMatch 61 = .ok (.aload_n 1, 1) := by decide +kernel
theorem eX23_typeMatch_62 : decode cX23_typeMatch 62 = .ok (.getfield 312, 3) := by decide +kernel
theorem eX23_typeMatch_65 : decode cX23_typeMatch 65 = .ok (.ifCond .eq 33, 3) := by decide +kernel
theorem eX23_typeMatch_68 : decode cX23_typeMatch 68 = .ok (.aload_n 1, 1) := by decide +kernel
theorem eX23_typeMatch_69 : decode cX23_typeMatch 69 = .ok (.getfield 278, 3) := by decide +kernel
theorem eX23_typeMatch_72 : decode cX23_typeMatch 72 = .ok (.ifCond .eq 26, 3) := by decide +kernel
theorem eX23_typeMatch_75 : decode cX23_typeMatch 75 = .ok (.aload_n 0, 1) := by decide +kernel
theorem eX23_typeMatch_76 : decode cX23_typeMatch 76 = .ok (.aload_n 1, 1) := by decide +kernel
theorem eX23_typeMatch_77 : decode cX23_typeMatch 77 = .ok (.getfield 268, 3) := by decide +kernel
theorem eX23_typeMatch_80 : decode cX23_typeMatch 80 = .ok (.invokevirtual 514, 3) := by decide +kernel
theorem eX23_typeMatch_83 : decode cX23_typeMatch 83 = .ok (.ifCond .ne 15, 3) := by decide +kernel
theorem eX23_typeMatch_86 : decode cX23_typeMatch 86 = .ok (.aload_n 0, 1) := by decide +kernel
theorem eX23_typeMatch_87 : decode cX23_typeMatch 87 = .ok (.iconst 4, 1) := by decide +kernel
theorem eX23_typeMatch_88 : decode cX23_typeMatch 88 = .ok (.aload_n 1, 1) := by decide +kernel
theorem eX23_typeMatch_89 : decode cX23_typeMatch 89 = .ok (.getfield 268, 3) := by decide +kernel
theorem eX23_typeMatch_92 : decode cX23_typeMatch 92 = .ok (.getfield 350, 3) := by decide +kernel
theorem eX23_typeMatch_95 : decode cX23_typeMatch 95 = .ok (.invokevirtual 96, 3) := by decide +kernel
theorem eX23_typeMatch_98 : decode cX23_typeMatch 98 = .ok (.aload_n 0, 1) := by decide +kernel
theorem eX23_typeMatch_99 : decode cX23_typeMatch 99 = .ok (.invokevirtual 89, 3) := by decide +kernel
theorem eX23_typeMatch_102 : decode cX23_typeMatch 102 = .ok (.ifCond .ne 4, 3) := by decide +kernel
theorem eX23_typeMatch_105 : decode cX23_typeMatch 105 = .ok (.return_, 1) := by decide +kernel
theorem eX23_typeMatch_106 : decode cX23_typeMatch 106 = .ok (.aload_n 0, 1) := by decide +kernel
theorem eX23_typeMatch_107 : decode cX23_typeMatch 107 = .ok (.getfield 232, 3) := by decide +kernel
theorem eX23_typeMatch_110 : decode cX23_typeMatch 110 = .ok (.aload_n 2, 1) := by decide +kernel
theorem eX23_typeMatch_111 : decode cX23_typeMatch 111 = .ok (.getfield 387, 3) := by decide +kernel
theorem eX23_typeMatch_114 : decode cX23_typeMatch 114 = .ok (.aaload, 1) := by decide +kernel
theorem eX23_typeMatch_115 : decode cX23_typeMatch 115 = .ok (.astore_n 3, 1) := by decide +kernel
theorem eX23_typeMatch_116 : decode cX23_typeMatch 116 = .ok (.iconst 0, 1) := by decide +kernel
theorem eX23_typeMatch_117 : decode cX23_typeMatch 117 = .ok (.istore 4, 2) := by decide +kernel
theorem eX23_typeMatch_119 : decode cX23_typeMatch 119 = .ok (.iload 4, 2) := by decide +kernel
theorem eX23_typeMatch_121 : decode cX23_typeMatch 121 = .ok (.aload_n 1, 1) := by decide +kernel
theorem eX23_typeMatch_122 : decode cX23_typeMatch 122 = .ok (.getfield 305, 3) := by decide +kernel
theorem eX23_typeMatch_125 : decode cX23_typeMatch 125 = .ok (.if_icmp .ge 161, 3) := by decide +kernel
theorem eX23_typeMatch_128 : decode cX23_typeMatch 128 = .ok (.aload_n 0, 1) := by decide +kernel
theorem eX23_typeMatch_129 : decode cX23_typeMatch 129 = .ok (.invokevirtual 89, 3) := by decide +kernel
theorem eX23_typeMatch_132 : decode cX23_typeMatch 132 = .ok (.ifCond .eq 154, 3) := by decide +kernel
theorem eX23_typeMatch_135 : decode cX23_typeMatch 135 = .ok (.aload_n 1, 1) := by decide +kernel
theorem eX23_typeMatch_136 : decode cX23_typeMatch 136 = .ok (.getfield 317, 3) := by decide +kernel
theorem eX23_typeMatch_139 : decode cX23_typeMatch 139 = .ok (.iload 4, 2) := by decide +kernel
theorem eX23_typeMatch_141 : decode cX23_typeMatch 141 = .ok (.aaload, 1) := by decide +kernel
theorem eX23_typeMatch_142 : decode cX23_typeMatch 142 = .ok (.astore 5, 2) := by decide +kernel
theorem eX23_typeMatch_144 : decode cX23_typeMatch 144 = .ok (.aload 5, 2) := by decide +kernel
theorem eX23_typeMatch_146 : decode cX23_typeMatch 146 = .ok (.aload_n 0, 1) := by decide +kernel
theorem eX23_typeMatch_147 : decode cX23_typeMatch 147 = .ok (.aload_n 3, 1) := by decide +kernel
theorem eX23_typeMatch_148 : decode cX23_typeMatch 148 = .ok (.aload 5, 2) := by decide +kernel
theorem eX23_typeMatch_150 : decode cX23_typeMatch 150 = .ok (.getfield 326, 3) := by decide +kernel
theorem eX23_typeMatch_153 : decode cX23_typeMatch 153 = .ok (.invokevirtual 551, 3) := by decide +kernel
theorem eX23_typeMatch_156 : decode cX23_typeMatch 156 = .ok (.putfield 591, 3) := by decide +kernel
theorem eX23_typeMatch_159 : decode cX23_typeMatch 159 = .ok (.iconst 0, 1) := by decide +kernel
theorem eX23_typeMatch_160 : decode cX23_typeMatch 160 = .ok (.istore 6, 2) := by decide +kernel
theorem eX23_typeMatch_162 : decode cX23_typeMatch 162 = .ok (.iconst 0, 1) := by decide +kernel
theorem eX23_typeMatch_163 : decode cX23_typeMatch 163 = .ok (.istore 7, 2) := by decide +kernel
theorem eX23_typeMatch_165 : decode cX23_typeMatch 165 = .ok (.iload 7, 2) := by decide +kernel
theorem eX23_typeMatch_167 : decode cX23_typeMatch 167 = .ok (.iload 4, 2) := by decide +kernel
theorem eX23_typeMatch_169 : decode cX23_typeMatch 169 = .ok (.if_icmp .ge 30, 3) := by decide +kernel
theorem eX23_typeMatch_172 : decode cX23_typeMatch 172 = .ok (.aload_n 1, 1) := by decide +kernel
theorem eX23_typeMatch_173 : decode cX23_typeMatch 173 = .ok (.getfield 317, 3) := by decide +kernel
theorem eX23_typeMatch_176 : decode cX23_typeMatch 176 = .ok (.iload 7, 2) := by decide +kernel
theorem eX23_typeMatch_178 : decode cX23_typeMatch 178 = .ok (.aaload, 1) := by decide +kernel
theorem eX23_typeMatch_179 : decode cX23_typeMatch 179 = .ok (.getfield 591, 3) := by decide +kernel
theorem eX23_typeMatch_182 : decode cX23_typeMatch 182 = .ok (.aload 5, 2) := by decide +kernel
theorem eX23_typeMatch_184 : decode cX23_typeMatch 184 = .ok (.getfield 591, 3) := by decide +kernel
theorem eX23_typeMatch_187 : decode cX23_typeMatch 187 = .ok (.if_icmp .ne 6, 3) := by decide +kernel
theorem eX23_typeMatch_190 : decode cX23_typeMatch 190 = .ok (.iconst 1, 1) := by decide +kernel
theorem eX23_typeMatch_191 : decode cX23_typeMatch 191 = .ok (.istore 6, 2) := by decide +kernel
theorem eX23_typeMatch_193 : decode cX23_typeMatch 193 = .ok (.iinc 7 1, 3) := by decide +kernel
theorem eX23_typeMatch_196 : decode cX23_typeMatch 196 = .ok (.goto (-31), 3) := by decide +kernel
theorem eX23_typeMatch_199 : decode cX23_typeMatch 199 = .ok (.aload 5, 2) := by decide +kernel
theorem eX23_typeMatch_201 : decode cX23_typeMatch 201 = .ok (.getfield 591, 3) := by decide +kernel
theorem eX23_typeMatch_204 : decode cX23_typeMatch 204 = .ok (.ifCond .lt 8, 3) := by decide +kernel
theorem eX23_typeMatch_207 : decode cX23_typeMatch 207 = .ok (.iload 6, 2) := by decide +kernel
theorem eX23_typeMatch_209 : decode cX23_typeMatch 209 = .ok (.ifCond .eq 16, 3) := by decide +kernel
theorem eX23_typeMatch_212 : decode cX23_typeMatch 212 = .ok (.aload_n 0, 1) := by decide +kernel
theorem eX23_typeMatch_213 : decode cX23_typeMatch 213 = .ok (.iconst 3, 1) := by decide +kernel
theorem eX23_typeMatch_214 : decode cX23_typeMatch 214 = .ok (.aload 5, 2) := by decide +kernel
theorem eX23_typeMatch_216 : decode cX23_typeMatch 216 = .ok (.getfield 326, 3) := by decide +kernel
theorem eX23_typeMatch_219 : decode cX23_typeMatch 219 = .ok (.invokevirtual 96, 3) := by decide +kernel
theorem eX23_typeMatch_222 : decode cX23_typeMatch 222 = .ok (.goto 34, 3) := by decide +kernel
theorem eX23_typeMatch_225 : decode cX23_typeMatch 225 = .ok (.aload_n 3, 1) := by decide +kernel
theorem eX23_typeMatch_226 : decode cX23_typeMatch 226 = .ok (.getfield 159, 3) := by decide +kernel
theorem eX23_typeMatch_229 : decode cX23_typeMatch 229 = .ok (.aload 5, 2) := by decide +kernel
theorem eX23_typeMatch_231 : decode cX23_typeMatch 231 = .ok (.getfield 591, 3) := by decide +kernel
theorem eX23_typeMatch_234 : decode cX23_typeMatch 234 = .ok (.aaload, 1) := by decide +kernel
theorem eX23_typeMatch_235 : decode cX23_typeMatch 235 = .ok (.getfield 170, 3) := by decide +kernel
theorem eX23_typeMatch_238 : decode cX23_typeMatch 238 = .ok (.aload 5, 2) := by decide +kernel
theorem eX23_typeMatch_240 : decode cX23_typeMatch 240 = .ok (.getfield 327, 3) := by decide +kernel
theorem eX23_typeMatch_243 : decode cX23_typeMatch 243 = .ok (.if_icmp .eq 13, 3) := by decide +kernel
theorem eX23_typeMatch_246 : decode cX23_typeMatch 246 = .ok (.aload_n 0, 1) := by decide +kernel
theorem eX23_typeMatch_247 : decode cX23_typeMatch 247 = .ok (.iconst 4, 1) := by decide +kernel
theorem eX23_typeMatch_248 : decode cX23_typeMatch 248 = .ok (.aload 5, 2) := by decide +kernel
theorem eX23_typeMatch_250 : decode cX23_typeMatch 250 = .ok (.getfield 326, 3) := by decide +kernel
theorem eX23_typeMatch_253 : decode cX23_typeMatch 253 = .ok (.invokevirtual 96, 3) := by decide +kernel
theorem eX23_typeMatch_256 : decode cX23_typeMatch 256 = .ok (.aload_n 0, 1) := by decide +kernel
theorem eX23_typeMatch_257 : decode cX23_typeMatch 257 = .ok (.invokevirtual 89, 3) := by decide +kernel
theorem eX23_typeMatch_260 : decode cX23_typeMatch 260 = .ok (.ifCond .eq 20, 3) := by decide +kernel
theorem eX23_typeMatch_263 : decode cX23_typeMatch 263 = .ok (.aload_n 0, 1) := by decide +kernel
theorem eX23_typeMatch_264 : decode cX23_typeMatch 264 = .ok (.aload_n 1, 1) := by decide +kernel
theorem eX23_typeMatch_265 : decode cX23_typeMatch 265 = .ok (.aload 5, 2) := by decide +kernel
theorem eX23_typeMatch_267 : decode cX23_typeMatch 267 = .ok (.aload_n 3, 1) := by decide +kernel
theorem eX23_typeMatch_268 : decode cX23_typeMatch 268 = .ok (.getfield 159, 3) := by decide +kernel
theorem eX23_typeMatch_271 : decode cX23_typeMatch 271 = .ok (.aload 5, 2) := by decide +kernel
theorem eX23_typeMatch_273 : decode cX23_typeMatch 273 = .ok (.getfield 591, 3) := by decide +kernel
theorem eX23_typeMatch_276 : decode cX23_typeMatch 276 = .ok (.aaload, 1) := by decide +kernel
theorem eX23_typeMatch_277 : decode cX23_typeMatch 277 = .ok (.invokevirtual 592, 3) := by decide +kernel
theorem eX23_typeMatch_280 : decode cX23_typeMatch 280 = .ok (.iinc 4 1, 3) := by decide +kernel
theorem eX23_typeMatch_283 : decode cX23_typeMatch 283 = .ok (.goto (-164), 3) := by decide +kernel
theorem eX23_typeMatch_286 : decode cX23_typeMatch 286 = .ok (.aload_n 0, 1) := by decide +kernel
theorem eX23_typeMatch_287 : decode cX23_typeMatch 287 = .ok (.invokevirtual 89, 3) := by decide +kernel
theorem eX23_typeMatch_290 : decode cX23_typeMatch 290 = .ok (.ifCond .eq 23, 3) := by decide +kernel
theorem eX23_typeMatch_293 : decode cX23_typeMatch 293 = .ok (.aload_n 1, 1) := by decide +kernel
theorem eX23_typeMatch_294 : decode cX23_typeMatch 294 = .ok (.getfield 305, 3) := by decide +kernel
theorem eX23_typeMatch_297 : decode cX23_typeMatch 297 = .ok (.aload_n 3, 1) := by decide +kernel
theorem eX23_typeMatch_298 : decode cX23_typeMatch 298 = .ok (.getfield 139, 3) := by decide +kernel
theorem eX23_typeMatch_301 : decode cX23_typeMatch 301 = .ok (.if_icmp .ge 12, 3) := by decide +kernel
theorem eX23_typeMatch_304 : decode cX23_typeMatch 304 = .ok (.aload_n 0, 1) := by decide +kernel
theorem eX23_typeMatch_305 : decode cX23_typeMatch 305 = .ok (.iconst 4, 1) := by decide +kernel
theorem eX23_typeMatch_306 : decode cX23_typeMatch 306 = .ok (.aload_n 1, 1) := by decide +kernel
theorem eX23_typeMatch_307 : decode cX23_typeMatch 307 = .ok (.getfield 255, 3) := by decide +kernel
theorem eX23_typeMatch_310 : decode cX23_typeMatch 310 = .ok (.invokevirtual 96, 3) := by decide +kernel
theorem eX23_typeMatch_313 : decode cX23_typeMatch 313 = .ok (.return_, 1) := by decide +kernel
theorem eX23_typeStatement_0 : decode cX23_typeStatement 0 = .ok (.aload_n 1, 1) := by decide +kernel
theorem eX23_typeStatement_1 : decode cX23_typeStatement 1 = .ok (.getfield 263, 3) := by decide +kernel
theorem eX23_typeStatement_4 : decode cX23_typeStatement 4 = .ok (.tableswitch 226 0 7 #[48, 56, 68, 76, 138, 164, 172, 180], 48) := by decide +kernel
theorem eX23_typeStatement_52 : decode cX23_typeStatement 52 = .ok (.aload_n 0, 1) := by decide +kernel
theorem eX23_typeStatement_53 : decode cX23_typeStatement 53 = .ok (.aload_n 1, 1) := by decide +kernel
theorem eX23_typeStatement_54 : decode cX23_typeStatement 54 = .ok (.invokevirtual 560, 3) := by decide +kernel
theorem eX23_typeStatement_57 : decode cX23_typeStatement 57 = .ok (.goto 181, 3) := by decide +kernel
theorem eX23_typeStatement_60 : decode cX23_typeStatement 60 = .ok (.aload_n 0, 1) := by decide +kernel
theorem eX23_typeStatement_61 : decode cX23_typeStatement 61 = .ok (.aload_n 1, 1) := by decide +kernel
theorem eX23_typeStatement_62 : decode cX23_typeStatement 62 = .ok (.getfield 268, 3) := by decide +kernel
theorem eX23_typeStatement_65 : decode cX23_typeStatement 65 = .ok (.invokevirtual 523, 3) := by decide +kernel
theorem eX23_typeStatement_68 : decode cX23_typeStatement 68 = .ok (.pop, 1) := by decide +kernel
theorem eX23_typeStatement_69 : decode cX23_typeStatement 69 = .ok (.goto 169, 3) := by decide +kernel
theorem eX23_typeStatement_72 : decode cX23_typeStatement 72 = .ok (.aload_n 0, 1) := by decide +kernel
theorem eX23_typeStatement_73 : decode cX23_typeStatement 73 = .ok (.aload_n 1, 1) := by decide +kernel
theorem eX23_typeStatement_74 : decode cX23_typeStatement 74 = .ok (.invokevirtual 563, 3) := by decide +kernel
theorem eX23_typeStatement_77 : decode cX23_typeStatement 77 = .ok (.goto 161, 3) := by decide +kernel
theorem eX23_typeStatement_80 : decode cX23_typeStatement 80 = .ok (.iconst 0, 1) := by decide +kernel
theorem eX23_typeStatement_81 : decode cX23_typeStatement 81 = .ok (.istore_n 2, 1) := by decide +kernel
theorem eX23_typeStatement_82 : decode cX23_typeStatement 82 = .ok (.iload_n 2, 1) := by decide +kernel
theorem eX23_typeStatement_83 : decode cX23_typeStatement 83 = .ok (.aload_n 1, 1) := by decide +kernel
theorem eX23_typeStatement_84 : decode cX23_typeStatement 84 = .ok (.getfield 305, 3) := by decide +kernel
theorem eX23_typeStatement_87 : decode cX23_typeStatement 87 = .ok (.if_icmp .ge 52, 3) := by decide +kernel
theorem eX23_typeStatement_90 : decode cX23_typeStatement 90 = .ok (.aload_n 0, 1) := by decide +kernel
theorem eX23_typeStatement_91 : decode cX23_typeStatement 91 = .ok (.invokevirtual 89, 3) := by decide +kernel
theorem eX23_typeStatement_94 : decode cX23_typeStatement 94 = .ok (.ifCond .eq 45, 3) := by decide +kernel
theorem eX23_typeStatement_97 : decode cX23_typeStatement 97 = .ok (.aload_n 1, 1) := by decide +kernel
theorem eX23_typeStatement_98 : decode cX23_typeStatement 98 = .ok (.getfield 297, 3) := by decide +kernel
theorem eX23_typeStatement_101 : decode cX23_typeStatement 101 = .ok (.iload_n 2, 1) := by decide +kernel
theorem eX23_typeStatement_102 : decode cX23_typeStatement 102 = .ok (.aaload, 1) := by decide +kernel
theorem eX23_typeStatement_103 : decode cX23_typeStatement 103 = .ok (.ifnull 13, 3) := by decide +kernel
theorem eX23_typeStatement_106 : decode cX23_typeStatement 106 = .ok (.aload_n 0, 1) := by decide +kernel
theorem eX23_typeStatement_107 : decode cX23_typeStatement 107 = .ok (.aload_n 1, 1) := by decide +kernel
theorem eX23_typeStatement_108 : decode cX23_typeStatement 108 = .ok (.getfield 297, 3) := by decide +kernel
theorem eX23_typeStatement_111 : decode cX23_typeStatement 111 = .ok (.iload_n 2, 1) := by decide +kernel
theorem eX23_typeStatement_112 : decode cX23_typeStatement 112 = .ok (.aaload, 1) := by decide +kernel
theorem eX23_typeStatement_113 : decode cX23_typeStatement 113 = .ok (.invokevirtual 566, 3) := by decide +kernel
theorem eX23_typeStatement_116 : decode cX23_typeStatement 116 = .ok (.aload_n 0, 1) := by decide +kernel
theorem eX23_typeStatement_117 : decode cX23_typeStatement 117 = .ok (.invokevirtual 89, 3) := by decide +kernel
theorem eX23_typeStatement_120 : decode cX23_typeStatement 120 = .ok (.ifCond .eq 13, 3) := by decide +kernel
theorem eX23_typeStatement_123 : decode cX23_typeStatement 123 = .ok (.aload_n 0, 1) := by decide +kernel
theorem eX23_typeStatement_124 : decode cX23_typeStatement 124 = .ok (.aload_n 1, 1) := by decide +kernel
theorem eX23_typeStatement_125 : decode cX23_typeStatement 125 = .ok (.getfield 301, 3) := by decide +kernel
theorem eX23_typeStatement_128 : decode cX23_typeStatement 128 = .ok (.iload_n 2, 1) := by decide +kernel
theorem eX23_typeStatement_129 : decode cX23_typeStatement 129 = .ok (.aaload, 1) := by decide +kernel
theorem eX23_typeStatement_130 : decode cX23_typeStatement 130 = .ok (.invokevirtual 569, 3) := by decide +kernel
theorem eX23_typeStatement_133 : decode cX23_typeStatement 133 = .ok (.iinc 2 1, 3) := by decide +kernel
theorem eX23_typeStatement_136 : decode cX23_typeStatement 136 = .ok (.goto (-54), 3) := by decide +kernel
theorem eX23_typeStatement_139 : decode cX23_typeStatement 139 = .ok (.goto 99, 3) := by decide +kernel
theorem eX23_typeStatement_142 : decode cX23_typeStatement 142 = .ok (.aload_n 0, 1) := by decide +kernel
theorem eX23_typeStatement_143 : decode cX23_typeStatement 143 = .ok (.aload_n 1, 1) := by decide +kernel
theorem eX23_typeStatement_144 : decode cX23_typeStatement 144 = .ok (.getfield 268, 3) := by decide +kernel
theorem eX23_typeStatement_147 : decode cX23_typeStatement 147 = .ok (.invokevirtual 566, 3) := by decide +kernel
theorem eX23_typeStatement_150 : decode cX23_typeStatement 150 = .ok (.aload_n 0, 1) := by decide +kernel
theorem eX23_typeStatement_151 : decode cX23_typeStatement 151 = .ok (.invokevirtual 89, 3) := by decide +kernel
theorem eX23_typeStatement_154 : decode cX23_typeStatement 154 = .ok (.ifCond .eq 84, 3) := by decide +kernel
theorem eX23_typeStatement_157 : decode cX23_typeStatement 157 = .ok (.aload_n 0, 1) := by decide +kernel
theorem eX23_typeStatement_158 : decode cX23_typeStatement 158 = .ok (.aload_n 1, 1) := by decide +kernel
theorem eX23_typeStatement_159 : decode cX23_typeStatement 159 = .ok (.getfield 271, 3) := by decide +kernel
theorem eX23_typeStatement_162 : decode cX23_typeStatement 162 = .ok (.invokevirtual 569, 3) := by decide +kernel
theorem eX23_typeStatement_165 : decode cX23_typeStatement 165 = .ok (.goto 73, 3) := by decide +kernel
theorem eX23_typeStatement_168 : decode cX23_typeStatement 168 = .ok (.aload_n 0, 1) := by decide +kernel
theorem eX23_typeStatement_169 : decode cX23_typeStatement 169 = .ok (.aload_n 1, 1) := by decide +kernel
theorem eX23_typeStatement_170 : decode cX23_typeStatement 170 = .ok (.invokevirtual 573, 3) := by decide +kernel
theorem eX23_typeStatement_173 : decode cX23_typeStatement 173 = .ok (.goto 65, 3) := by decide +kernel
theorem eX23_typeStatement_176 : decode cX23_typeStatement 176 = .ok (.aload_n 0, 1) := by decide +kernel
theorem eX23_typeStatement_177 : decode cX23_typeStatement 177 = .ok (.aload_n 1, 1) := by decide +kernel
theorem eX23_typeStatement_178 : decode cX23_typeStatement 178 = .ok (.invokevirtual 576, 3) := by decide +kernel
theorem eX23_typeStatement_181 : decode cX23_typeStatement 181 = .ok (.goto 57, 3) := by decide +kernel
theorem eX23_typeStatement_184 : decode cX23_typeStatement 184 = .ok (.aload_n 0, 1) := by decide +kernel
theorem eX23_typeStatement_185 : decode cX23_typeStatement 185 = .ok (.aload_n 1, 1) := by decide +kernel
theorem eX23_typeStatement_186 : decode cX23_typeStatement 186 = .ok (.getfield 268, 3) := by decide +kernel
theorem eX23_typeStatement_189 : decode cX23_typeStatement 189 = .ok (.invokevirtual 523, 3) := by decide +kernel
theorem eX23_typeStatement_192 : decode cX23_typeStatement 192 = .ok (.astore_n 2, 1) := by decide +kernel
theorem eX23_typeStatement_193 : decode cX23_typeStatement 193 = .ok (.aload_n 0, 1) := by decide +kernel
theorem eX23_typeStatement_194 : decode cX23_typeStatement 194 = .ok (.invokevirtual 89, 3) := by decide +kernel
theorem eX23_typeStatement_197 : decode cX23_typeStatement 197 = .ok (.ifCond .eq 41, 3) := by decide +kernel
theorem eX23_typeStatement_200 : decode cX23_typeStatement 200 = .ok (.aload_n 2, 1) := by decide +kernel
theorem eX23_typeStatement_201 : decode cX23_typeStatement 201 = .ok (.getfield 386, 3) := by decide +kernel
theorem eX23_typeStatement_204 : decode cX23_typeStatement 204 = .ok (.ifCond .eq 34, 3) := by decide +kernel
theorem eX23_typeStatement_207 : decode cX23_typeStatement 207 = .ok (.aload_n 2, 1) := by decide +kernel
theorem eX23_typeStatement_208 : decode cX23_typeStatement 208 = .ok (.getfield 386, 3) := by decide +kernel
theorem eX23_typeStatement_211 : decode cX23_typeStatement 211 = .ok (.iconst 1, 1) := by decide +kernel
theorem eX23_typeStatement_212 : decode cX23_typeStatement 212 = .ok (.if_icmp .eq 26, 3) := by decide +kernel
theorem eX23_typeStatement_215 : decode cX23_typeStatement 215 = .ok (.aload_n 0, 1) := by decide +kernel
theorem eX23_typeStatement_216 : decode cX23_typeStatement 216 = .ok (.iconst 4, 1) := by decide +kernel
theorem eX23_typeStatement_217 : decode cX23_typeStatement 217 = .ok (.aload_n 1, 1) := by decide +kernel
theorem eX23_typeStatement_218 : decode cX23_typeStatement 218 = .ok (.getfield 268, 3) := by decide +kernel
theorem eX23_typeStatement_221 : decode cX23_typeStatement 221 = .ok (.getfield 350, 3) := by decide +kernel
theorem eX23_typeStatement_224 : decode cX23_typeStatement 224 = .ok (.invokevirtual 96, 3) := by decide +kernel
theorem eX23_typeStatement_227 : decode cX23_typeStatement 227 = .ok (.goto 11, 3) := by decide +kernel
theorem eX23_typeStatement_230 : decode cX23_typeStatement 230 = .ok (.aload_n 0, 1) := by decide +kernel
theorem eX23_typeStatement_231 : decode cX23_typeStatement 231 = .ok (.aload_n 1, 1) := by decide +kernel
theorem eX23_typeStatement_232 : decode cX23_typeStatement 232 = .ok (.getfield 271, 3) := by decide +kernel
theorem eX23_typeStatement_235 : decode cX23_typeStatement 235 = .ok (.invokevirtual 569, 3) := by decide +kernel
theorem eX23_typeStatement_238 : decode cX23_typeStatement 238 = .ok (.return_, 1) := by decide +kernel
theorem eX23_typeBlock_0 : decode cX23_typeBlock 0 = .ok (.aload_n 0, 1) := by decide +kernel
theorem eX23_typeBlock_1 : decode cX23_typeBlock 1 = .ok (.getfield 477, 3) := by decide +kernel
theorem eX23_typeBlock_4 : decode cX23_typeBlock 4 = .ok (.istore_n 2, 1) := by decide +kernel
theorem eX23_typeBlock_5 : decode cX23_typeBlock 5 = .ok (.iconst 0, 1) := by decide +kernel
theorem eX23_typeBlock_6 : decode cX23_typeBlock 6 = .ok (.istore_n 3, 1) := by decide +kernel
theorem eX23_typeBlock_7 : decode cX23_typeBlock 7 = .ok (.iload_n 3, 1) := by decide +kernel
theorem eX23_typeBlock_8 : decode cX23_typeBlock 8 = .ok (.aload_n 1, 1) := by decide +kernel
theorem eX23_typeBlock_9 : decode cX23_typeBlock 9 = .ok (.getfield 244, 3) := by decide +kernel
theorem eX23_typeBlock_12 : decode cX23_typeBlock 12 = .ok (.if_icmp .ge 26, 3) := by decide +kernel
theorem eX23_typeBlock_15 : decode cX23_typeBlock 15 = .ok (.aload_n 0, 1) := by decide +kernel
theorem eX23_typeBlock_16 : decode cX23_typeBlock 16 = .ok (.invokevirtual 89, 3) := by decide +kernel
theorem eX23_typeBlock_19 : decode cX23_typeBlock 19 = .ok (.ifCond .eq 19, 3) := by decide +kernel
theorem eX23_typeBlock_22 : decode cX23_typeBlock 22 = .ok (.aload_n 0, 1) := by decide +kernel
theorem eX23_typeBlock_23 : decode cX23_typeBlock 23 = .ok (.aload_n 1, 1) := by decide +kernel
theorem eX23_typeBlock_24 : decode cX23_typeBlock 24 = .ok (.getfield 245, 3) := by decide +kernel
theorem eX23_typeBlock_27 : decode cX23_typeBlock 27 = .ok (.iload_n 3, 1) := by decide +kernel
theorem eX23_typeBlock_28 : decode cX23_typeBlock 28 = .ok (.aaload, 1) := by decide +kernel
theorem eX23_typeBlock_29 : decode cX23_typeBlock 29 = .ok (.invokevirtual 557, 3) := by decide +kernel
theorem eX23_typeBlock_32 : decode cX23_typeBlock 32 = .ok (.iinc 3 1, 3) := by decide +kernel
theorem eX23_typeBlock_35 : decode cX23_typeBlock 35 = .ok (.goto (-28), 3) := by decide +kernel
theorem eX23_typeBlock_38 : decode cX23_typeBlock 38 = .ok (.aload_n 0, 1) := by decide +kernel
theorem eX23_typeBlock_39 : decode cX23_typeBlock 39 = .ok (.iload_n 2, 1) := by decide +kernel
theorem eX23_typeBlock_40 : decode cX23_typeBlock 40 = .ok (.putfield 477, 3) := by decide +kernel
theorem eX23_typeBlock_43 : decode cX23_typeBlock 43 = .ok (.return_, 1) := by decide +kernel
theorem eX23_ends__0 : decode cX23_ends_ 0 = .ok (.aload_n 1, 1) := by decide +kernel
theorem eX23_ends__1 : decode cX23_ends_ 1 = .ok (.getfield 263, 3) := by decide +kernel
theorem eX23_ends__4 : decode cX23_ends_ 4 = .ok (.bipush 6, 2) := by decide +kernel
theorem eX23_ends__6 : decode cX23_ends_ 6 = .ok (.if_icmp .ne 5, 3) := by decide +kernel
theorem eX23_ends__9 : decode cX23_ends_ 9 = .ok (.iconst 1, 1) := by decide +kernel
theorem eX23_ends__10 : decode cX23_ends_ 10 = .ok (.ireturn, 1) := by decide +kernel
theorem eX23_ends__11 : decode cX23_ends_ 11 = .ok (.aload_n 1, 1) := by decide +kernel
theorem eX23_ends__12 : decode cX23_ends_ 12 = .ok (.getfield 263, 3) := by decide +kernel
theorem eX23_ends__15 : decode cX23_ends_ 15 = .ok (.bipush 8, 2) := by decide +kernel
theorem eX23_ends__17 : decode cX23_ends_ 17 = .ok (.if_icmp .ne 12, 3) := by decide +kernel
theorem eX23_ends__20 : decode cX23_ends_ 20 = .ok (.aload_n 0, 1) := by decide +kernel
theorem eX23_ends__21 : decode cX23_ends_ 21 = .ok (.aload_n 1, 1) := by decide +kernel
theorem eX23_ends__22 : decode cX23_ends_ 22 = .ok (.getfield 271, 3) := by decide +kernel
theorem eX23_ends__25 : decode cX23_ends_ 25 = .ok (.invokevirtual 602, 3) := by decide +kernel
theorem eX23_ends__28 : decode cX23_ends_ 28 = .ok (.ireturn, 1) := by decide +kernel
theorem eX23_ends__29 : decode cX23_ends_ 29 = .ok (.aload_n 1, 1) := by decide +kernel
theorem eX23_ends__30 : decode cX23_ends_ 30 = .ok (.getfield 263, 3) := by decide +kernel
theorem eX23_ends__33 : decode cX23_ends_ 33 = .ok (.iconst 5, 1) := by decide +kernel
theorem eX23_ends__34 : decode cX23_ends_ 34 = .ok (.if_icmp .ne 39, 3) := by decide +kernel
theorem eX23_ends__37 : decode cX23_ends_ 37 = .ok (.iconst 0, 1) := by decide +kernel
theorem eX23_ends__38 : decode cX23_ends_ 38 = .ok (.istore_n 2, 1) := by decide +kernel
theorem eX23_ends__39 : decode cX23_ends_ 39 = .ok (.iload_n 2, 1) := by decide +kernel
theorem eX23_ends__40 : decode cX23_ends_ 40 = .ok (.aload_n 1, 1) := by decide +kernel
theorem eX23_ends__41 : decode cX23_ends_ 41 = .ok (.getfield 305, 3) := by decide +kernel
theorem eX23_ends__44 : decode cX23_ends_ 44 = .ok (.if_icmp .ge 27, 3) := by decide +kernel
theorem eX23_ends__47 : decode cX23_ends_ 47 = .ok (.aload_n 0, 1) := by decide +kernel
theorem eX23_ends__48 : decode cX23_ends_ 48 = .ok (.aload_n 1, 1) := by decide +kernel
theorem eX23_ends__49 : decode cX23_ends_ 49 = .ok (.getfield 317, 3) := by decide +kernel
theorem eX23_ends__52 : decode cX23_ends_ 52 = .ok (.iload_n 2, 1) := by decide +kernel
theorem eX23_ends__53 : decode cX23_ends_ 53 = .ok (.aaload, 1) := by decide +kernel
theorem eX23_ends__54 : decode cX23_ends_ 54 = .ok (.getfield 329, 3) := by decide +kernel
theorem eX23_ends__57 : decode cX23_ends_ 57 = .ok (.invokevirtual 602, 3) := by decide +kernel
theorem eX23_ends__60 : decode cX23_ends_ 60 = .ok (.ifCond .ne 5, 3) := by decide +kernel
theorem eX23_ends__63 : decode cX23_ends_ 63 = .ok (.iconst 0, 1) := by decide +kernel
theorem eX23_ends__64 : decode cX23_ends_ 64 = .ok (.ireturn, 1) := by decide +kernel
theorem eX23_ends__65 : decode cX23_ends_ 65 = .ok (.iinc 2 1, 3) := by decide +kernel
theorem eX23_ends__68 : decode cX23_ends_ 68 = .ok (.goto (-29), 3) := by decide +kernel
theorem eX23_ends__71 : decode cX23_ends_ 71 = .ok (.iconst 1, 1) := by decide +kernel
theorem eX23_ends__72 : decode cX23_ends_ 72 = .ok (.ireturn, 1) := by decide +kernel
theorem eX23_ends__73 : decode cX23_ends_ 73 = .ok (.aload_n 1, 1) := by decide +kernel
theorem eX23_ends__74 : decode cX23_ends_ 74 = .ok (.getfield 263, 3) := by decide +kernel
theorem eX23_ends__77 : decode cX23_ends_ 77 = .ok (.iconst 3, 1) := by decide +kernel
theorem eX23_ends__78 : decode cX23_ends_ 78 = .ok (.if_icmp .ne 17, 3) := by decide +kernel
theorem eX23_ends__81 : decode cX23_ends_ 81 = .ok (.aload_n 1, 1) := by decide +kernel
theorem eX23_ends__82 : decode cX23_ends_ 82 = .ok (.getfield 297, 3) := by decide +kernel
theorem eX23_ends__85 : decode cX23_ends_ 85 = .ok (.aload_n 1, 1) := by decide +kernel
theorem eX23_ends__86 : decode cX23_ends_ 86 = .ok (.getfield 305, 3) := by decide +kernel
theorem eX23_ends__89 : decode cX23_ends_ 89 = .ok (.iconst 1, 1) := by decide +kernel
theorem eX23_ends__90 : decode cX23_ends_ 90 = .ok (.isub, 1) := by decide +kernel
theorem eX23_ends__91 : decode cX23_ends_ 91 = .ok (.aaload, 1) := by decide +kernel
theorem eX23_ends__92 : decode cX23_ends_ 92 = .ok (.ifnull 5, 3) := by decide +kernel
theorem eX23_ends__95 : decode cX23_ends_ 95 = .ok (.iconst 0, 1) := by decide +kernel
theorem eX23_ends__96 : decode cX23_ends_ 96 = .ok (.ireturn, 1) := by decide +kernel
theorem eX23_ends__97 : decode cX23_ends_ 97 = .ok (.iconst 0, 1) := by decide +kernel
theorem eX23_ends__98 : decode cX23_ends_ 98 = .ok (.istore_n 2, 1) := by decide +kernel
theorem eX23_ends__99 : decode cX23_ends_ 99 = .ok (.iload_n 2, 1) := by decide +kernel
theorem eX23_ends__100 : decode cX23_ends_ 100 = .ok (.aload_n 1, 1) := by decide +kernel
theorem eX23_ends__101 : decode cX23_ends_ 101 = .ok (.getfield 305, 3) := by decide +kernel
theorem eX23_ends__104 : decode cX23_ends_ 104 = .ok (.if_icmp .ge 24, 3) := by decide +kernel
theorem eX23_ends__107 : decode cX23_ends_ 107 = .ok (.aload_n 0, 1) := by decide +kernel
theorem eX23_ends__108 : decode cX23_ends_ 108 = .ok (.aload_n 1, 1) := by decide +kernel
theorem eX23_ends__109 : decode cX23_ends_ 109 = .ok (.getfield 301, 3) := by decide +kernel
theorem eX23_ends__112 : decode cX23_ends_ 112 = .ok (.iload_n 2, 1) := by decide +kernel
theorem eX23_ends__113 : decode cX23_ends_ 113 = .ok (.aaload, 1) := by decide +kernel
theorem eX23_ends__114 : decode cX23_ends_ 114 = .ok (.invokevirtual 602, 3) := by decide +kernel
theorem eX23_ends__117 : decode cX23_ends_ 117 = .ok (.ifCond .ne 5, 3) := by decide +kernel
theorem eX23_ends__120 : decode cX23_ends_ 120 = .ok (.iconst 0, 1) := by decide +kernel
theorem eX23_ends__121 : decode cX23_ends_ 121 = .ok (.ireturn, 1) := by decide +kernel
theorem eX23_ends__122 : decode cX23_ends_ 122 = .ok (.iinc 2 1, 3) := by decide +kernel
theorem eX23_ends__125 : decode cX23_ends_ 125 = .ok (.goto (-26), 3) := by decide +kernel
theorem eX23_ends__128 : decode cX23_ends_ 128 = .ok (.iconst 1, 1) := by decide +kernel
theorem eX23_ends__129 : decode cX23_ends_ 129 = .ok (.ireturn, 1) := by decide +kernel
theorem eX23_ends_0 : decode cX23_ends 0 = .ok (.iconst 0, 1) := by decide +kernel
theorem eX23_ends_1 : decode cX23_ends 1 = .ok (.istore_n 2, 1) := by decide +kernel
theorem eX23_ends_2 : decode cX23_ends 2 = .ok (.iload_n 2, 1) := by decide +kernel
theorem eX23_ends_3 : decode cX23_ends 3 = .ok (.aload_n 1, 1) := by decide +kernel
theorem eX23_ends_4 : decode cX23_ends 4 = .ok (.getfield 244, 3) := by decide +kernel
theorem eX23_ends_7 : decode cX23_ends 7 = .ok (.if_icmp .ge 24, 3) := by decide +kernel
theorem eX23_ends_10 : decode cX23_ends 10 = .ok (.aload_n 0, 1) := by decide +kernel
theorem eX23_ends_11 : decode cX23_ends 11 = .ok (.aload_n 1, 1) := by decide +kernel
theorem eX23_ends_12 : decode cX23_ends 12 = .ok (.getfield 245, 3) := by decide +kernel
theorem eX23_ends_15 : decode cX23_ends 15 = .ok (.iload_n 2, 1) := by decide +kernel
theorem eX23_ends_16 : decode cX23_ends 16 = .ok (.aaload, 1) := by decide +kernel
theorem eX23_ends_17 : decode cX23_ends 17 = .ok (.invokevirtual 598, 3) := by decide +kernel
theorem eX23_ends_20 : decode cX23_ends 20 = .ok (.ifCond .eq 5, 3) := by decide +kernel
theorem eX23_ends_23 : decode cX23_ends 23 = .ok (.iconst 1, 1) := by decide +kernel
theorem eX23_ends_24 : decode cX23_ends 24 = .ok (.ireturn, 1) := by decide +kernel
theorem eX23_ends_25 : decode cX23_ends 25 = .ok (.iinc 2 1, 3) := by decide +kernel
theorem eX23_ends_28 : decode cX23_ends 28 = .ok (.goto (-26), 3) := by decide +kernel
theorem eX23_ends_31 : decode cX23_ends 31 = .ok (.iconst 0, 1) := by decide +kernel
theorem eX23_ends_32 : decode cX23_ends 32 = .ok (.ireturn, 1) := by decide +kernel
theorem eX23_typeFunction_0 : decode cX23_typeFunction 0 = .ok (.aload_n 0, 1) := by decide +kernel
theorem eX23_typeFunction_1 : decode cX23_typeFunction 1 = .ok (.getfield 232, 3) := by decide +kernel
theorem eX23_typeFunction_4 : decode cX23_typeFunction 4 = .ok (.iload_n 1, 1) := by decide +kernel
theorem eX23_typeFunction_5 : decode cX23_typeFunction 5 = .ok (.aaload, 1) := by decide +kernel
theorem eX23_typeFunction_6 : decode cX23_typeFunction 6 = .ok (.astore_n 2, 1) := by decide +kernel
theorem eX23_typeFunction_7 : decode cX23_typeFunction 7 = .ok (.aload_n 0, 1) := by decide +kernel
theorem eX23_typeFunction_8 : decode cX23_typeFunction 8 = .ok (.aload_n 2, 1) := by decide +kernel
theorem eX23_typeFunction_9 : decode cX23_typeFunction 9 = .ok (.putfield 588, 3) := by decide +kernel
theorem eX23_typeFunction_12 : decode cX23_typeFunction 12 = .ok (.aload_n 0, 1) := by decide +kernel
theorem eX23_typeFunction_13 : decode cX23_typeFunction 13 = .ok (.iconst 0, 1) := by decide +kernel
theorem eX23_typeFunction_14 : decode cX23_typeFunction 14 = .ok (.putfield 477, 3) := by decide +kernel
theorem eX23_typeFunction_17 : decode cX23_typeFunction 17 = .ok (.aload_n 0, 1) := by decide +kernel
theorem eX23_typeFunction_18 : decode cX23_typeFunction 18 = .ok (.iconst 0, 1) := by decide +kernel
theorem eX23_typeFunction_19 : decode cX23_typeFunction 19 = .ok (.putfield 466, 3) := by decide +kernel
theorem eX23_typeFunction_22 : decode cX23_typeFunction 22 = .ok (.iconst 0, 1) := by decide +kernel
theorem eX23_typeFunction_23 : decode cX23_typeFunction 23 = .ok (.istore_n 3, 1) := by decide +kernel
theorem eX23_typeFunction_24 : decode cX23_typeFunction 24 = .ok (.iload_n 3, 1) := by decide +kernel
theorem eX23_typeFunction_25 : decode cX23_typeFunction 25 = .ok (.aload_n 2, 1) := by decide +kernel
theorem eX23_typeFunction_26 : decode cX23_typeFunction 26 = .ok (.getfield 139, 3) := by decide +kernel
theorem eX23_typeFunction_29 : decode cX23_typeFunction 29 = .ok (.if_icmp .ge 32, 3) := by decide +kernel
theorem eX23_typeFunction_32 : decode cX23_typeFunction 32 = .ok (.aload_n 2, 1) := by decide +kernel
theorem eX23_typeFunction_33 : decode cX23_typeFunction 33 = .ok (.getfield 194, 3) := by decide +kernel
theorem eX23_typeFunction_36 : decode cX23_typeFunction 36 = .ok (.iload_n 3, 1) := by decide +kernel
theorem eX23_typeFunction_37 : decode cX23_typeFunction 37 = .ok (.aload_n 0, 1) := by decide +kernel
theorem eX23_typeFunction_38 : decode cX23_typeFunction 38 = .ok (.aload_n 2, 1) := by decide +kernel
theorem eX23_typeFunction_39 : decode cX23_typeFunction 39 = .ok (.getfield 147, 3) := by decide +kernel
theorem eX23_typeFunction_42 : decode cX23_typeFunction 42 = .ok (.iload_n 3, 1) := by decide +kernel
theorem eX23_typeFunction_43 : decode cX23_typeFunction 43 = .ok (.iaload, 1) := by decide +kernel
theorem eX23_typeFunction_44 : decode cX23_typeFunction 44 = .ok (.aload_n 2, 1) := by decide +kernel
theorem eX23_typeFunction_45 : decode cX23_typeFunction 45 = .ok (.getfield 175, 3) := by decide +kernel
theorem eX23_typeFunction_48 : decode cX23_typeFunction 48 = .ok (.iload_n 3, 1) := by decide +kernel
theorem eX23_typeFunction_49 : decode cX23_typeFunction 49 = .ok (.aaload, 1) := by decide +kernel
theorem eX23_typeFunction_50 : decode cX23_typeFunction 50 = .ok (.iconst 0, 1) := by decide +kernel
theorem eX23_typeFunction_51 : decode cX23_typeFunction 51 = .ok (.invokevirtual 583, 3) := by decide +kernel
theorem eX23_typeFunction_54 : decode cX23_typeFunction 54 = .ok (.aastore, 1) := by decide +kernel
theorem eX23_typeFunction_55 : decode cX23_typeFunction 55 = .ok (.iinc 3 1, 3) := by decide +kernel
theorem eX23_typeFunction_58 : decode cX23_typeFunction 58 = .ok (.goto (-34), 3) := by decide +kernel
theorem eX23_typeFunction_61 : decode cX23_typeFunction 61 = .ok (.aload_n 0, 1) := by decide +kernel
theorem eX23_typeFunction_62 : decode cX23_typeFunction 62 = .ok (.aload_n 2, 1) := by decide +kernel
theorem eX23_typeFunction_63 : decode cX23_typeFunction 63 = .ok (.getfield 217, 3) := by decide +kernel
theorem eX23_typeFunction_66 : decode cX23_typeFunction 66 = .ok (.invokevirtual 569, 3) := by decide +kernel
theorem eX23_typeFunction_69 : decode cX23_typeFunction 69 = .ok (.aload_n 0, 1) := by decide +kernel
theorem eX23_typeFunction_70 : decode cX23_typeFunction 70 = .ok (.invokevirtual 89, 3) := by decide +kernel
theorem eX23_typeFunction_73 : decode cX23_typeFunction 73 = .ok (.ifCond .eq 38, 3) := by decide +kernel
theorem eX23_typeFunction_76 : decode cX23_typeFunction 76 = .ok (.aload_n 2, 1) := by decide +kernel
theorem eX23_typeFunction_77 : decode cX23_typeFunction 77 = .ok (.getfield 422, 3) := by decide +kernel
theorem eX23_typeFunction_80 : decode cX23_typeFunction 80 = .ok (.getfield 386, 3) := by decide +kernel
theorem eX23_typeFunction_83 : decode cX23_typeFunction 83 = .ok (.bipush 8, 2) := by decide +kernel
theorem eX23_typeFunction_85 : decode cX23_typeFunction 85 = .ok (.if_icmp .eq 26, 3) := by decide +kernel
theorem eX23_typeFunction_88 : decode cX23_typeFunction 88 = .ok (.aload_n 0, 1) := by decide +kernel
theorem eX23_typeFunction_89 : decode cX23_typeFunction 89 = .ok (.aload_n 2, 1) := by decide +kernel
theorem eX23_typeFunction_90 : decode cX23_typeFunction 90 = .ok (.getfield 217, 3) := by decide +kernel
theorem eX23_typeFunction_93 : decode cX23_typeFunction 93 = .ok (.invokevirtual 602, 3) := by decide +kernel
theorem eX23_typeFunction_96 : decode cX23_typeFunction 96 = .ok (.ifCond .ne 15, 3) := by decide +kernel
theorem eX23_typeFunction_99 : decode cX23_typeFunction 99 = .ok (.aload_n 0, 1) := by decide +kernel
theorem eX23_typeFunction_100 : decode cX23_typeFunction 100 = .ok (.iconst 4, 1) := by decide +kernel
theorem eX23_typeFunction_101 : decode cX23_typeFunction 101 = .ok (.aload_n 2, 1) := by decide +kernel
theorem eX23_typeFunction_102 : decode cX23_typeFunction 102 = .ok (.getfield 217, 3) := by decide +kernel
theorem eX23_typeFunction_105 : decode cX23_typeFunction 105 = .ok (.getfield 251, 3) := by decide +kernel
theorem eX23_typeFunction_108 : decode cX23_typeFunction 108 = .ok (.invokevirtual 96, 3) := by decide +kernel
theorem eX23_typeFunction_111 : decode cX23_typeFunction 111 = .ok (.return_, 1) := by decide +kernel
theorem eX23_typeAll_0 : decode cX23_typeAll 0 = .ok (.aload_n 0, 1) := by decide +kernel
theorem eX23_typeAll_1 : decode cX23_typeAll 1 = .ok (.iconst 0, 1) := by decide +kernel
theorem eX23_typeAll_2 : decode cX23_typeAll 2 = .ok (.putfield 382, 3) := by decide +kernel
theorem eX23_typeAll_5 : decode cX23_typeAll 5 = .ok (.aload_n 0, 1) := by decide +kernel
theorem eX23_typeAll_6 : decode cX23_typeAll 6 = .ok (.invokevirtual 605, 3) := by decide +kernel
theorem eX23_typeAll_9 : decode cX23_typeAll 9 = .ok (.iconst 0, 1) := by decide +kernel
theorem eX23_typeAll_10 : decode cX23_typeAll 10 = .ok (.istore_n 1, 1) := by decide +kernel
theorem eX23_typeAll_11 : decode cX23_typeAll 11 = .ok (.iload_n 1, 1) := by decide +kernel
theorem eX23_typeAll_12 : decode cX23_typeAll 12 = .ok (.aload_n 0, 1) := by decide +kernel
theorem eX23_typeAll_13 : decode cX23_typeAll 13 = .ok (.getfield 221, 3) := by decide +kernel
theorem eX23_typeAll_16 : decode cX23_typeAll 16 = .ok (.if_icmp .ge 26, 3) := by decide +kernel
theorem eX23_typeAll_19 : decode cX23_typeAll 19 = .ok (.aload_n 0, 1) := by decide +kernel
theorem eX23_typeAll_20 : decode cX23_typeAll 20 = .ok (.invokevirtual 89, 3) := by decide +kernel
theorem eX23_typeAll_23 : decode cX23_typeAll 23 = .ok (.ifCond .eq 19, 3) := by decide +kernel
theorem eX23_typeAll_26 : decode cX23_typeAll 26 = .ok (.aload_n 0, 1) := by decide +kernel
theorem eX23_typeAll_27 : decode cX23_typeAll 27 = .ok (.aload_n 0, 1) := by decide +kernel
theorem eX23_typeAll_28 : decode cX23_typeAll 28 = .ok (.getfield 232, 3) := by decide +kernel
theorem eX23_typeAll_31 : decode cX23_typeAll 31 = .ok (.iload_n 1, 1) := by decide +kernel
theorem eX23_typeAll_32 : decode cX23_typeAll 32 = .ok (.aaload, 1) := by decide +kernel
theorem eX23_typeAll_33 : decode cX23_typeAll 33 = .ok (.invokevirtual 608, 3) := by decide +kernel
theorem eX23_typeAll_36 : decode cX23_typeAll 36 = .ok (.iinc 1 1, 3) := by decide +kernel
theorem eX23_typeAll_39 : decode cX23_typeAll 39 = .ok (.goto (-28), 3) := by decide +kernel
theorem eX23_typeAll_42 : decode cX23_typeAll 42 = .ok (.aload_n 0, 1) := by decide +kernel
theorem eX23_typeAll_43 : decode cX23_typeAll 43 = .ok (.invokevirtual 89, 3) := by decide +kernel
theorem eX23_typeAll_46 : decode cX23_typeAll 46 = .ok (.ifCond .eq 7, 3) := by decide +kernel
theorem eX23_typeAll_49 : decode cX23_typeAll 49 = .ok (.aload_n 0, 1) := by decide +kernel
theorem eX23_typeAll_50 : decode cX23_typeAll 50 = .ok (.invokevirtual 611, 3) := by decide +kernel
theorem eX23_typeAll_53 : decode cX23_typeAll 53 = .ok (.aload_n 0, 1) := by decide +kernel
theorem eX23_typeAll_54 : decode cX23_typeAll 54 = .ok (.invokevirtual 89, 3) := by decide +kernel
theorem eX23_typeAll_57 : decode cX23_typeAll 57 = .ok (.ifCond .eq 7, 3) := by decide +kernel
theorem eX23_typeAll_60 : decode cX23_typeAll 60 = .ok (.aload_n 0, 1) := by decide +kernel
theorem eX23_typeAll_61 : decode cX23_typeAll 61 = .ok (.invokevirtual 614, 3) := by decide +kernel
theorem eX23_typeAll_64 : decode cX23_typeAll 64 = .ok (.aload_n 0, 1) := by decide +kernel
theorem eX23_typeAll_65 : decode cX23_typeAll 65 = .ok (.invokevirtual 89, 3) := by decide +kernel
theorem eX23_typeAll_68 : decode cX23_typeAll 68 = .ok (.ifCond .eq 7, 3) := by decide +kernel
theorem eX23_typeAll_71 : decode cX23_typeAll 71 = .ok (.aload_n 0, 1) := by decide +kernel
theorem eX23_typeAll_72 : decode cX23_typeAll 72 = .ok (.invokevirtual 616, 3) := by decide +kernel
theorem eX23_typeAll_75 : decode cX23_typeAll 75 = .ok (.iconst 0, 1) := by decide +kernel
theorem eX23_typeAll_76 : decode cX23_typeAll 76 = .ok (.istore_n 1, 1) := by decide +kernel
theorem eX23_typeAll_77 : decode cX23_typeAll 77 = .ok (.iload_n 1, 1) := by decide +kernel
theorem eX23_typeAll_78 : decode cX23_typeAll 78 = .ok (.aload_n 0, 1) := by decide +kernel
theorem eX23_typeAll_79 : decode cX23_typeAll 79 = .ok (.getfield 221, 3) := by decide +kernel
theorem eX23_typeAll_82 : decode cX23_typeAll 82 = .ok (.if_icmp .ge 35, 3) := by decide +kernel
theorem eX23_typeAll_85 : decode cX23_typeAll 85 = .ok (.aload_n 0, 1) := by decide +kernel
theorem eX23_typeAll_86 : decode cX23_typeAll 86 = .ok (.invokevirtual 89, 3) := by decide +kernel
theorem eX23_typeAll_89 : decode cX23_typeAll 89 = .ok (.ifCond .eq 28, 3) := by decide +kernel
theorem eX23_typeAll_92 : decode cX23_typeAll 92 = .ok (.aload_n 0, 1) := by decide +kernel
theorem eX23_typeAll_93 : decode cX23_typeAll 93 = .ok (.getfield 232, 3) := by decide +kernel
theorem eX23_typeAll_96 : decode cX23_typeAll 96 = .ok (.iload_n 1, 1) := by decide +kernel
theorem eX23_typeAll_97 : decode cX23_typeAll 97 = .ok (.aaload, 1) := by decide +kernel
theorem eX23_typeAll_98 : decode cX23_typeAll 98 = .ok (.getfield 174, 3) := by decide +kernel
theorem eX23_typeAll_101 : decode cX23_typeAll 101 = .ok (.bipush 12, 2) := by decide +kernel
theorem eX23_typeAll_103 : decode cX23_typeAll 103 = .ok (.if_icmp .ne 8, 3) := by decide +kernel
theorem eX23_typeAll_106 : decode cX23_typeAll 106 = .ok (.aload_n 0, 1) := by decide +kernel
theorem eX23_typeAll_107 : decode cX23_typeAll 107 = .ok (.iload_n 1, 1) := by decide +kernel
theorem eX23_typeAll_108 : decode cX23_typeAll 108 = .ok (.invokevirtual 619, 3) := by decide +kernel
theorem eX23_typeAll_111 : decode cX23_typeAll 111 = .ok (.iinc 1 1, 3) := by decide +kernel
theorem eX23_typeAll_114 : decode cX23_typeAll 114 = .ok (.goto (-37), 3) := by decide +kernel
theorem eX23_typeAll_117 : decode cX23_typeAll 117 = .ok (.return_, 1) := by decide +kernel
theorem eX23_point_0 : decode cX23_point 0 = .ok (.aload_n 0, 1) := by decide +kernel
theorem eX23_point_1 : decode cX23_point 1 = .ok (.getfield 622, 3) := by decide +kernel
theorem eX23_point_4 : decode cX23_point 4 = .ok (.istore_n 3, 1) := by decide +kernel
theorem eX23_point_5 : decode cX23_point 5 = .ok (.aload_n 0, 1) := by decide +kernel
theorem eX23_point_6 : decode cX23_point 6 = .ok (.dup, 1) := by decide +kernel
theorem eX23_point_7 : decode cX23_point 7 = .ok (.getfield 622, 3) := by decide +kernel
theorem eX23_point_10 : decode cX23_point 10 = .ok (.iconst 1, 1) := by decide +kernel
theorem eX23_point_11 : decode cX23_point 11 = .ok (.iadd, 1) := by decide +kernel
theorem eX23_point_12 : decode cX23_point 12 = .ok (.putfield 622, 3) := by decide +kernel
theorem eX23_point_15 : decode cX23_point 15 = .ok (.aload_n 0, 1) := by decide +kernel
theorem eX23_point_16 : decode cX23_point 16 = .ok (.getfield 625, 3) := by decide +kernel
theorem eX23_point_19 : decode cX23_point 19 = .ok (.iload_n 3, 1) := by decide +kernel
theorem eX23_point_20 : decode cX23_point 20 = .ok (.iload_n 1, 1) := by decide +kernel
theorem eX23_point_21 : decode cX23_point 21 = .ok (.iastore, 1) := by decide +kernel
theorem eX23_point_22 : decode cX23_point 22 = .ok (.aload_n 0, 1) := by decide +kernel
theorem eX23_point_23 : decode cX23_point 23 = .ok (.getfield 627, 3) := by decide +kernel
theorem eX23_point_26 : decode cX23_point 26 = .ok (.iload_n 3, 1) := by decide +kernel
theorem eX23_point_27 : decode cX23_point 27 = .ok (.iload_n 2, 1) := by decide +kernel
theorem eX23_point_28 : decode cX23_point 28 = .ok (.iastore, 1) := by decide +kernel
theorem eX23_point_29 : decode cX23_point 29 = .ok (.aload_n 0, 1) := by decide +kernel
theorem eX23_point_30 : decode cX23_point 30 = .ok (.getfield 629, 3) := by decide +kernel
theorem eX23_point_33 : decode cX23_point 33 = .ok (.iload_n 3, 1) := by decide +kernel
theorem eX23_point_34 : decode cX23_point 34 = .ok (.iconst 0, 1) := by decide +kernel
theorem eX23_point_35 : decode cX23_point 35 = .ok (.iastore, 1) := by decide +kernel
theorem eX23_point_36 : decode cX23_point 36 = .ok (.aload_n 0, 1) := by decide +kernel
theorem eX23_point_37 : decode cX23_point 37 = .ok (.getfield 632, 3) := by decide +kernel
theorem eX23_point_40 : decode cX23_point 40 = .ok (.iload_n 3, 1) := by decide +kernel
theorem eX23_point_41 : decode cX23_point 41 = .ok (.iconst 0, 1) := by decide +kernel
theorem eX23_point_42 : decode cX23_point 42 = .ok (.iastore, 1) := by decide +kernel
theorem eX23_point_43 : decode cX23_point 43 = .ok (.aload_n 0, 1) := by decide +kernel
theorem eX23_point_44 : decode cX23_point 44 = .ok (.getfield 635, 3) := by decide +kernel
theorem eX23_point_47 : decode cX23_point 47 = .ok (.iload_n 3, 1) := by decide +kernel
theorem eX23_point_48 : decode cX23_point 48 = .ok (.iconst (-1), 1) := by decide +kernel
theorem eX23_point_49 : decode cX23_point 49 = .ok (.iastore, 1) := by decide +kernel
theorem eX23_point_50 : decode cX23_point 50 = .ok (.aload_n 0, 1) := by decide +kernel
theorem eX23_point_51 : decode cX23_point 51 = .ok (.getfield 638, 3) := by decide +kernel
theorem eX23_point_54 : decode cX23_point 54 = .ok (.iload_n 3, 1) := by decide +kernel
theorem eX23_point_55 : decode cX23_point 55 = .ok (.lconst 0, 1) := by decide +kernel
theorem eX23_point_56 : decode cX23_point 56 = .ok (.lastore, 1) := by decide +kernel
theorem eX23_point_57 : decode cX23_point 57 = .ok (.aload_n 0, 1) := by decide +kernel
theorem eX23_point_58 : decode cX23_point 58 = .ok (.getfield 640, 3) := by decide +kernel
theorem eX23_point_61 : decode cX23_point 61 = .ok (.iload_n 3, 1) := by decide +kernel
theorem eX23_point_62 : decode cX23_point 62 = .ok (.iconst 0, 1) := by decide +kernel
theorem eX23_point_63 : decode cX23_point 63 = .ok (.iastore, 1) := by decide +kernel
theorem eX23_point_64 : decode cX23_point 64 = .ok (.aload_n 0, 1) := by decide +kernel
theorem eX23_point_65 : decode cX23_point 65 = .ok (.getfield 643, 3) := by decide +kernel
theorem eX23_point_68 : decode cX23_point 68 = .ok (.iload_n 3, 1) := by decide +kernel
theorem eX23_point_69 : decode cX23_point 69 = .ok (.iconst (-1), 1) := by decide +kernel
theorem eX23_point_70 : decode cX23_point 70 = .ok (.iastore, 1) := by decide +kernel
theorem eX23_point_71 : decode cX23_point 71 = .ok (.aload_n 0, 1) := by decide +kernel
theorem eX23_point_72 : decode cX23_point 72 = .ok (.getfield 646, 3) := by decide +kernel
theorem eX23_point_75 : decode cX23_point 75 = .ok (.iload_n 3, 1) := by decide +kernel
theorem eX23_point_76 : decode cX23_point 76 = .ok (.iconst (-1), 1) := by decide +kernel
theorem eX23_point_77 : decode cX23_point 77 = .ok (.iastore, 1) := by decide +kernel
theorem eX23_point_78 : decode cX23_point 78 = .ok (.aload_n 0, 1) := by decide +kernel
theorem eX23_point_79 : decode cX23_point 79 = .ok (.getfield 649, 3) := by decide +kernel
theorem eX23_point_82 : decode cX23_point 82 = .ok (.iload_n 3, 1) := by decide +kernel
theorem eX23_point_83 : decode cX23_point 83 = .ok (.aconst_null, 1) := by decide +kernel
theorem eX23_point_84 : decode cX23_point 84 = .ok (.aastore, 1) := by decide +kernel
theorem eX23_point_85 : decode cX23_point 85 = .ok (.aload_n 0, 1) := by decide +kernel
theorem eX23_point_86 : decode cX23_point 86 = .ok (.getfield 653, 3) := by decide +kernel
theorem eX23_point_89 : decode cX23_point 89 = .ok (.iload_n 3, 1) := by decide +kernel
theorem eX23_point_90 : decode cX23_point 90 = .ok (.aconst_null, 1) := by decide +kernel
theorem eX23_point_91 : decode cX23_point 91 = .ok (.aastore, 1) := by decide +kernel
theorem eX23_point_92 : decode cX23_point 92 = .ok (.aload_n 0, 1) := by decide +kernel
theorem eX23_point_93 : decode cX23_point 93 = .ok (.getfield 656, 3) := by decide +kernel
theorem eX23_point_96 : decode cX23_point 96 = .ok (.iload_n 3, 1) := by decide +kernel
theorem eX23_point_97 : decode cX23_point 97 = .ok (.aconst_null, 1) := by decide +kernel
theorem eX23_point_98 : decode cX23_point 98 = .ok (.aastore, 1) := by decide +kernel
theorem eX23_point_99 : decode cX23_point 99 = .ok (.aload_n 0, 1) := by decide +kernel
theorem eX23_point_100 : decode cX23_point 100 = .ok (.getfield 660, 3) := by decide +kernel
theorem eX23_point_103 : decode cX23_point 103 = .ok (.iload_n 3, 1) := by decide +kernel
theorem eX23_point_104 : decode cX23_point 104 = .ok (.aconst_null, 1) := by decide +kernel
theorem eX23_point_105 : decode cX23_point 105 = .ok (.aastore, 1) := by decide +kernel
theorem eX23_point_106 : decode cX23_point 106 = .ok (.aload_n 0, 1) := by decide +kernel
theorem eX23_point_107 : decode cX23_point 107 = .ok (.getfield 663, 3) := by decide +kernel
theorem eX23_point_110 : decode cX23_point 110 = .ok (.iload_n 3, 1) := by decide +kernel
theorem eX23_point_111 : decode cX23_point 111 = .ok (.aconst_null, 1) := by decide +kernel
theorem eX23_point_112 : decode cX23_point 112 = .ok (.aastore, 1) := by decide +kernel
theorem eX23_point_113 : decode cX23_point 113 = .ok (.aload_n 0, 1) := by decide +kernel
theorem eX23_point_114 : decode cX23_point 114 = .ok (.getfield 665, 3) := by decide +kernel
theorem eX23_point_117 : decode cX23_point 117 = .ok (.iload_n 3, 1) := by decide +kernel
theorem eX23_point_118 : decode cX23_point 118 = .ok (.aconst_null, 1) := by decide +kernel
theorem eX23_point_119 : decode cX23_point 119 = .ok (.aastore, 1) := by decide +kernel
theorem eX23_point_120 : decode cX23_point 120 = .ok (.aload_n 0, 1) := by decide +kernel
theorem eX23_point_121 : decode cX23_point 121 = .ok (.getfield 668, 3) := by decide +kernel
theorem eX23_point_124 : decode cX23_point 124 = .ok (.iload_n 3, 1) := by decide +kernel
theorem eX23_point_125 : decode cX23_point 125 = .ok (.aconst_null, 1) := by decide +kernel
theorem eX23_point_126 : decode cX23_point 126 = .ok (.aastore, 1) := by decide +kernel
theorem eX23_point_127 : decode cX23_point 127 = .ok (.iload_n 3, 1) := by decide +kernel
theorem eX23_point_128 : decode cX23_point 128 = .ok (.ireturn, 1) := by decide +kernel
theorem eX23_just_0 : decode cX23_just 0 = .ok (.aload_n 0, 1) := by decide +kernel
theorem eX23_just_1 : decode cX23_just 1 = .ok (.getfield 671, 3) := by decide +kernel
theorem eX23_just_4 : decode cX23_just 4 = .ok (.iload_n 1, 1) := by decide +kernel
theorem eX23_just_5 : decode cX23_just 5 = .ok (.aaload, 1) := by decide +kernel
theorem eX23_just_6 : decode cX23_just 6 = .ok (.ifnonnull 21, 3) := by decide +kernel
theorem eX23_just_9 : decode cX23_just 9 = .ok (.aload_n 0, 1) := by decide +kernel
theorem eX23_just_10 : decode cX23_just 10 = .ok (.getfield 671, 3) := by decide +kernel
theorem eX23_just_13 : decode cX23_just 13 = .ok (.iload_n 1, 1) := by decide +kernel
theorem eX23_just_14 : decode cX23_just 14 = .ok (.iconst 1, 1) := by decide +kernel
theorem eX23_just_15 : decode cX23_just 15 = .ok (.newarray .int, 2) := by decide +kernel
theorem eX23_just_17 : decode cX23_just 17 = .ok (.aastore, 1) := by decide +kernel
theorem eX23_just_18 : decode cX23_just 18 = .ok (.aload_n 0, 1) := by decide +kernel
theorem eX23_just_19 : decode cX23_just 19 = .ok (.getfield 671, 3) := by decide +kernel
theorem eX23_just_22 : decode cX23_just 22 = .ok (.iload_n 1, 1) := by decide +kernel
theorem eX23_just_23 : decode cX23_just 23 = .ok (.aaload, 1) := by decide +kernel
theorem eX23_just_24 : decode cX23_just 24 = .ok (.iconst 0, 1) := by decide +kernel
theorem eX23_just_25 : decode cX23_just 25 = .ok (.iload_n 1, 1) := by decide +kernel
theorem eX23_just_26 : decode cX23_just 26 = .ok (.iastore, 1) := by decide +kernel
theorem eX23_just_27 : decode cX23_just 27 = .ok (.aload_n 0, 1) := by decide +kernel
theorem eX23_just_28 : decode cX23_just 28 = .ok (.getfield 671, 3) := by decide +kernel
theorem eX23_just_31 : decode cX23_just 31 = .ok (.iload_n 1, 1) := by decide +kernel
theorem eX23_just_32 : decode cX23_just 32 = .ok (.aaload, 1) := by decide +kernel
theorem eX23_just_33 : decode cX23_just 33 = .ok (.areturn, 1) := by decide +kernel
theorem eX18_init_0 : decode cX18_init 0 = .ok (.aload_n 0, 1) := by decide +kernel
theorem eX18_init_1 : decode cX18_init 1 = .ok (.invokespecial 1, 3) := by decide +kernel
theorem eX18_init_4 : decode cX18_init 4 = .ok (.aload_n 0, 1) := by decide +kernel
theorem eX18_init_5 : decode cX18_init 5 = .ok (.iload_n 1, 1) := by decide +kernel
theorem eX18_init_6 : decode cX18_init 6 = .ok (.putfield 7, 3) := by decide +kernel
theorem eX18_init_9 : decode cX18_init 9 = .ok (.aload_n 0, 1) := by decide +kernel
theorem eX18_init_10 : decode cX18_init 10 = .ok (.iload_n 1, 1) := by decide +kernel
theorem eX18_init_11 : decode cX18_init 11 = .ok (.newarray .int, 2) := by decide +kernel
theorem eX18_init_13 : decode cX18_init 13 = .ok (.putfield 13, 3) := by decide +kernel
theorem eX18_init_16 : decode cX18_init 16 = .ok (.aload_n 0, 1) := by decide +kernel
theorem eX18_init_17 : decode cX18_init 17 = .ok (.iload_n 1, 1) := by decide +kernel
theorem eX18_init_18 : decode cX18_init 18 = .ok (.iconst 1, 1) := by decide +kernel
theorem eX18_init_19 : decode cX18_init 19 = .ok (.iadd, 1) := by decide +kernel
theorem eX18_init_20 : decode cX18_init 20 = .ok (.anewarray 17, 3) := by decide +kernel
theorem eX18_init_23 : decode cX18_init 23 = .ok (.putfield 19, 3) := by decide +kernel
theorem eX18_init_26 : decode cX18_init 26 = .ok (.return_, 1) := by decide +kernel
theorem eX23_wholeOf_0 : decode cX23_wholeOf 0 = .ok (.aload_n 0, 1) := by decide +kernel
theorem eX23_wholeOf_1 : decode cX23_wholeOf 1 = .ok (.getfield 674, 3) := by decide +kernel
theorem eX23_wholeOf_4 : decode cX23_wholeOf 4 = .ok (.ifnonnull 36, 3) := by decide +kernel
theorem eX23_wholeOf_7 : decode cX23_wholeOf 7 = .ok (.aload_n 0, 1) := by decide +kernel
theorem eX23_wholeOf_8 : decode cX23_wholeOf 8 = .ok (.new 678, 3) := by decide +kernel
theorem eX23_wholeOf_11 : decode cX23_wholeOf 11 = .ok (.dup, 1) := by decide +kernel
theorem eX23_wholeOf_12 : decode cX23_wholeOf 12 = .ok (.iconst 0, 1) := by decide +kernel
theorem eX23_wholeOf_13 : decode cX23_wholeOf 13 = .ok (.invokespecial 680, 3) := by decide +kernel
theorem eX23_wholeOf_16 : decode cX23_wholeOf 16 = .ok (.putfield 674, 3) := by decide +kernel
theorem eX23_wholeOf_19 : decode cX23_wholeOf 19 = .ok (.aload_n 0, 1) := by decide +kernel
theorem eX23_wholeOf_20 : decode cX23_wholeOf 20 = .ok (.getfield 674, 3) := by decide +kernel
theorem eX23_wholeOf_23 : decode cX23_wholeOf 23 = .ok (.aload_n 0, 1) := by decide +kernel
theorem eX23_wholeOf_24 : decode cX23_wholeOf 24 = .ok (.putfield 682, 3) := by decide +kernel
theorem eX23_wholeOf_27 : decode cX23_wholeOf 27 = .ok (.aload_n 0, 1) := by decide +kernel
theorem eX23_wholeOf_28 : decode cX23_wholeOf 28 = .ok (.getfield 674, 3) := by decide +kernel
theorem eX23_wholeOf_31 : decode cX23_wholeOf 31 = .ok (.getfield 683, 3) := by decide +kernel
theorem eX23_wholeOf_34 : decode cX23_wholeOf 34 = .ok (.iconst 0, 1) := by decide +kernel
theorem eX23_wholeOf_35 : decode cX23_wholeOf 35 = .ok (.aload_n 0, 1) := by decide +kernel
theorem eX23_wholeOf_36 : decode cX23_wholeOf 36 = .ok (.getfield 471, 3) := by decide +kernel
theorem eX23_wholeOf_39 : decode cX23_wholeOf 39 = .ok (.aastore, 1) := by decide +kernel
theorem eX23_wholeOf_40 : decode cX23_wholeOf 40 = .ok (.aload_n 0, 1) := by decide +kernel
theorem eX23_wholeOf_41 : decode cX23_wholeOf 41 = .ok (.getfield 674, 3) := by decide +kernel
theorem eX23_wholeOf_44 : decode cX23_wholeOf 44 = .ok (.areturn, 1) := by decide +kernel
theorem eX23_temporary_0 : decode cX23_temporary 0 = .ok (.bipush 40, 2) := by decide +kernel
theorem eX23_temporary_2 : decode cX23_temporary 2 = .ok (.iload_n 0, 1) := by decide +kernel
theorem eX23_temporary_3 : decode cX23_temporary 3 = .ok (.iadd, 1) := by decide +kernel
theorem eX23_temporary_4 : decode cX23_temporary 4 = .ok (.ireturn, 1) := by decide +kernel
theorem eX23_pathOf_0 : decode cX23_pathOf 0 = .ok (.aload_n 1, 1) := by decide +kernel
theorem eX23_pathOf_1 : decode cX23_pathOf 1 = .ok (.invokestatic 480, 3) := by decide +kernel
theorem eX23_pathOf_4 : decode cX23_pathOf 4 = .ok (.astore_n 2, 1) := by decide +kernel
theorem eX23_pathOf_5 : decode cX23_pathOf 5 = .ok (.aload_n 1, 1) := by decide +kernel
theorem eX23_pathOf_6 : decode cX23_pathOf 6 = .ok (.invokestatic 506, 3) := by decide +kernel
theorem eX23_pathOf_9 : decode cX23_pathOf 9 = .ok (.istore_n 3, 1) := by decide +kernel
theorem eX23_pathOf_10 : decode cX23_pathOf 10 = .ok (.iload_n 3, 1) := by decide +kernel
theorem eX23_pathOf_11 : decode cX23_pathOf 11 = .ok (.ifCond .ne 11, 3) := by decide +kernel
theorem eX23_pathOf_14 : decode cX23_pathOf 14 = .ok (.aload_n 2, 1) := by decide +kernel
theorem eX23_pathOf_15 : decode cX23_pathOf 15 = .ok (.getfield 492, 3) := by decide +kernel
theorem eX23_pathOf_18 : decode cX23_pathOf 18 = .ok (.invokestatic 684, 3) := by decide +kernel
theorem eX23_pathOf_21 : decode cX23_pathOf 21 = .ok (.areturn, 1) := by decide +kernel
theorem eX23_pathOf_22 : decode cX23_pathOf 22 = .ok (.new 678, 3) := by decide +kernel
theorem eX23_pathOf_25 : decode cX23_pathOf 25 = .ok (.dup, 1) := by decide +kernel
theorem eX23_pathOf_26 : decode cX23_pathOf 26 = .ok (.iload_n 3, 1) := by decide +kernel
theorem eX23_pathOf_27 : decode cX23_pathOf 27 = .ok (.invokespecial 680, 3) := by decide +kernel
theorem eX23_pathOf_30 : decode cX23_pathOf 30 = .ok (.astore 4, 2) := by decide +kernel
theorem eX23_pathOf_32 : decode cX23_pathOf 32 = .ok (.iload_n 3, 1) := by decide +kernel
theorem eX23_pathOf_33 : decode cX23_pathOf 33 = .ok (.istore 5, 2) := by decide +kernel
theorem eX23_pathOf_35 : decode cX23_pathOf 35 = .ok (.iload 5, 2) := by decide +kernel
theorem eX23_pathOf_37 : decode cX23_pathOf 37 = .ok (.ifCond .le 56, 3) := by decide +kernel
theorem eX23_pathOf_40 : decode cX23_pathOf 40 = .ok (.aload 4, 2) := by decide +kernel
theorem eX23_pathOf_42 : decode cX23_pathOf 42 = .ok (.getfield 683, 3) := by decide +kernel
theorem eX23_pathOf_45 : decode cX23_pathOf 45 = .ok (.iload 5, 2) := by decide +kernel
theorem eX23_pathOf_47 : decode cX23_pathOf 47 = .ok (.aload_n 2, 1) := by decide +kernel
theorem eX23_pathOf_48 : decode cX23_pathOf 48 = .ok (.getfield 484, 3) := by decide +kernel
theorem eX23_pathOf_51 : decode cX23_pathOf 51 = .ok (.aastore, 1) := by decide +kernel
theorem eX23_pathOf_52 : decode cX23_pathOf 52 = .ok (.aload 4, 2) := by decide +kernel
theorem eX23_pathOf_54 : decode cX23_pathOf 54 = .ok (.getfield 688, 3) := by decide +kernel
theorem eX23_pathOf_57 : decode cX23_pathOf 57 = .ok (.iload 5, 2) := by decide +kernel
theorem eX23_pathOf_59 : decode cX23_pathOf 59 = .ok (.iconst 1, 1) := by decide +kernel
theorem eX23_pathOf_60 : decode cX23_pathOf 60 = .ok (.isub, 1) := by decide +kernel
theorem eX23_pathOf_61 : decode cX23_pathOf 61 = .ok (.aload_n 2, 1) := by decide +kernel
theorem eX23_pathOf_62 : decode cX23_pathOf 62 = .ok (.getfield 330, 3) := by decide +kernel
theorem eX23_pathOf_65 : decode cX23_pathOf 65 = .ok (.bipush 11, 2) := by decide +kernel
theorem eX23_pathOf_67 : decode cX23_pathOf 67 = .ok (.if_icmp .ne 7, 3) := by decide +kernel
theorem eX23_pathOf_70 : decode cX23_pathOf 70 = .ok (.iconst (-1), 1) := by decide +kernel
theorem eX23_pathOf_71 : decode cX23_pathOf 71 = .ok (.goto 7, 3) := by decide +kernel
theorem eX23_pathOf_74 : decode cX23_pathOf 74 = .ok (.aload_n 2, 1) := by decide +kernel
theorem eX23_pathOf_75 : decode cX23_pathOf 75 = .ok (.getfield 510, 3) := by decide +kernel
theorem eX23_pathOf_78 : decode cX23_pathOf 78 = .ok (.iastore, 1) := by decide +kernel
theorem eX23_pathOf_79 : decode cX23_pathOf 79 = .ok (.aload_n 2, 1) := by decide +kernel
theorem eX23_pathOf_80 : decode cX23_pathOf 80 = .ok (.getfield 331, 3) := by decide +kernel
theorem eX23_pathOf_83 : decode cX23_pathOf 83 = .ok (.invokestatic 480, 3) := by decide +kernel
theorem eX23_pathOf_86 : decode cX23_pathOf 86 = .ok (.astore_n 2, 1) := by decide +kernel
theorem eX23_pathOf_87 : decode cX23_pathOf 87 = .ok (.iinc 5 (-1), 3) := by decide +kernel
theorem eX23_pathOf_90 : decode cX23_pathOf 90 = .ok (.goto (-55), 3) := by decide +kernel
theorem eX23_pathOf_93 : decode cX23_pathOf 93 = .ok (.aload 4, 2) := by decide +kernel
theorem eX23_pathOf_95 : decode cX23_pathOf 95 = .ok (.getfield 683, 3) := by decide +kernel
theorem eX23_pathOf_98 : decode cX23_pathOf 98 = .ok (.iconst 0, 1) := by decide +kernel
theorem eX23_pathOf_99 : decode cX23_pathOf 99 = .ok (.aload_n 2, 1) := by decide +kernel
theorem eX23_pathOf_100 : decode cX23_pathOf 100 = .ok (.getfield 492, 3) := by decide +kernel
theorem eX23_pathOf_103 : decode cX23_pathOf 103 = .ok (.getfield 471, 3) := by decide +kernel
theorem eX23_pathOf_106 : decode cX23_pathOf 106 = .ok (.aastore, 1) := by decide +kernel
theorem eX23_pathOf_107 : decode cX23_pathOf 107 = .ok (.aload 4, 2) := by decide +kernel
theorem eX23_pathOf_109 : decode cX23_pathOf 109 = .ok (.aload_n 2, 1) := by decide +kernel
theorem eX23_pathOf_110 : decode cX23_pathOf 110 = .ok (.getfield 492, 3) := by decide +kernel
theorem eX23_pathOf_113 : decode cX23_pathOf 113 = .ok (.putfield 682, 3) := by decide +kernel
theorem eX23_pathOf_116 : decode cX23_pathOf 116 = .ok (.aload 4, 2) := by decide +kernel
theorem eX23_pathOf_118 : decode cX23_pathOf 118 = .ok (.areturn, 1) := by decide +kernel
theorem eX18_type_0 : decode cX18_type 0 = .ok (.aload_n 0, 1) := by decide +kernel
theorem eX18_type_1 : decode cX18_type 1 = .ok (.getfield 19, 3) := by decide +kernel
theorem eX18_type_4 : decode cX18_type 4 = .ok (.aload_n 0, 1) := by decide +kernel
theorem eX18_type_5 : decode cX18_type 5 = .ok (.getfield 7, 3) := by decide +kernel
theorem eX18_type_8 : decode cX18_type 8 = .ok (.aaload, 1) := by decide +kernel
theorem eX18_type_9 : decode cX18_type 9 = .ok (.areturn, 1) := by decide +kernel
theorem eX23_through_0 : decode cX23_through 0 = .ok (.aload_n 0, 1) := by decide +kernel
theorem eX23_through_1 : decode cX23_through 1 = .ok (.getfield 656, 3) := by decide +kernel
theorem eX23_through_4 : decode cX23_through 4 = .ok (.iload_n 1, 1) := by decide +kernel
theorem eX23_through_5 : decode cX23_through 5 = .ok (.aload_n 2, 1) := by decide +kernel
theorem eX23_through_6 : decode cX23_through 6 = .ok (.aastore, 1) := by decide +kernel
theorem eX23_through_7 : decode cX23_through 7 = .ok (.aload_n 0, 1) := by decide +kernel
theorem eX23_through_8 : decode cX23_through 8 = .ok (.getfield 660, 3) := by decide +kernel
theorem eX23_through_11 : decode cX23_through 11 = .ok (.iload_n 1, 1) := by decide +kernel
theorem eX23_through_12 : decode cX23_through 12 = .ok (.aload_n 2, 1) := by decide +kernel
theorem eX23_through_13 : decode cX23_through 13 = .ok (.invokevirtual 691, 3) := by decide +kernel
theorem eX23_through_16 : decode cX23_through 16 = .ok (.aastore, 1) := by decide +kernel
theorem eX23_through_17 : decode cX23_through 17 = .ok (.aload_n 2, 1) := by decide +kernel
theorem eX23_through_18 : decode cX23_through 18 = .ok (.getfield 683, 3) := by decide +kernel
theorem eX23_through_21 : decode cX23_through 21 = .ok (.iconst 0, 1) := by decide +kernel
theorem eX23_through_22 : decode cX23_through 22 = .ok (.aaload, 1) := by decide +kernel
theorem eX23_through_23 : decode cX23_through 23 = .ok (.invokestatic 503, 3) := by decide +kernel
theorem eX23_through_26 : decode cX23_through 26 = .ok (.ifCond .ne 4, 3) := by decide +kernel
theorem eX23_through_29 : decode cX23_through 29 = .ok (.return_, 1) := by decide +kernel
theorem eX23_through_30 : decode cX23_through 30 = .ok (.aload_n 0, 1) := by decide +kernel
theorem eX23_through_31 : decode cX23_through 31 = .ok (.getfield 653, 3) := by decide +kernel
theorem eX23_through_34 : decode cX23_through 34 = .ok (.iload_n 1, 1) := by decide +kernel
theorem eX23_through_35 : decode cX23_through 35 = .ok (.aload_n 0, 1) := by decide +kernel
theorem eX23_through_36 : decode cX23_through 36 = .ok (.aload_n 2, 1) := by decide +kernel
theorem eX23_through_37 : decode cX23_through 37 = .ok (.getfield 682, 3) := by decide +kernel
theorem eX23_through_40 : decode cX23_through 40 = .ok (.getfield 469, 3) := by decide +kernel
theorem eX23_through_43 : decode cX23_through 43 = .ok (.invokevirtual 694, 3) := by decide +kernel
theorem eX23_through_46 : decode cX23_through 46 = .ok (.aastore, 1) := by decide +kernel
theorem eX23_through_47 : decode cX23_through 47 = .ok (.aload_n 0, 1) := by decide +kernel
theorem eX23_through_48 : decode cX23_through 48 = .ok (.getfield 649, 3) := by decide +kernel
theorem eX23_through_51 : decode cX23_through 51 = .ok (.iload_n 1, 1) := by decide +kernel
theorem eX23_through_52 : decode cX23_through 52 = .ok (.aload_n 0, 1) := by decide +kernel
theorem eX23_through_53 : decode cX23_through 53 = .ok (.aload_n 2, 1) := by decide +kernel
theorem eX23_through_54 : decode cX23_through 54 = .ok (.getfield 682, 3) := by decide +kernel
theorem eX23_through_57 : decode cX23_through 57 = .ok (.getfield 469, 3) := by decide +kernel
theorem eX23_through_60 : decode cX23_through 60 = .ok (.invokevirtual 694, 3) := by decide +kernel
theorem eX23_through_63 : decode cX23_through 63 = .ok (.aastore, 1) := by decide +kernel
theorem eX23_through_64 : decode cX23_through 64 = .ok (.return_, 1) := by decide +kernel
theorem eX23_givesHolder_0 : decode cX23_givesHolder 0 = .ok (.aload_n 2, 1) := by decide +kernel
theorem eX23_givesHolder_1 : decode cX23_givesHolder 1 = .ok (.invokestatic 503, 3) := by decide +kernel
theorem eX23_givesHolder_4 : decode cX23_givesHolder 4 = .ok (.ifCond .eq 16, 3) := by decide +kernel
theorem eX23_givesHolder_7 : decode cX23_givesHolder 7 = .ok (.aload_n 0, 1) := by decide +kernel
theorem eX23_givesHolder_8 : decode cX23_givesHolder 8 = .ok (.getfield 643, 3) := by decide +kernel
theorem eX23_givesHolder_11 : decode cX23_givesHolder 11 = .ok (.iload_n 1, 1) := by decide +kernel
theorem eX23_givesHolder_12 : decode cX23_givesHolder 12 = .ok (.aload_n 0, 1) := by decide +kernel
theorem eX23_givesHolder_13 : decode cX23_givesHolder 13 = .ok (.getfield 698, 3) := by decide +kernel
theorem eX23_givesHolder_16 : decode cX23_givesHolder 16 = .ok (.invokestatic 701, 3) := by decide +kernel
theorem eX23_givesHolder_19 : decode cX23_givesHolder 19 = .ok (.iastore, 1) := by decide +kernel
theorem eX23_givesHolder_20 : decode cX23_givesHolder 20 = .ok (.return_, 1) := by decide +kernel
theorem eX23_read_0 : decode cX23_read 0 = .ok (.aload_n 0, 1) := by decide +kernel
theorem eX23_read_1 : decode cX23_read 1 = .ok (.aload_n 1, 1) := by decide +kernel
theorem eX23_read_2 : decode cX23_read 2 = .ok (.invokevirtual 704, 3) := by decide +kernel
theorem eX23_read_5 : decode cX23_read 5 = .ok (.astore_n 2, 1) := by decide +kernel
theorem eX23_read_6 : decode cX23_read 6 = .ok (.aload_n 0, 1) := by decide +kernel
theorem eX23_read_7 : decode cX23_read 7 = .ok (.iconst 2, 1) := by decide +kernel
theorem eX23_read_8 : decode cX23_read 8 = .ok (.aload_n 1, 1) := by decide +kernel
theorem eX23_read_9 : decode cX23_read 9 = .ok (.getfield 350, 3) := by decide +kernel
theorem eX23_read_12 : decode cX23_read 12 = .ok (.invokevirtual 708, 3) := by decide +kernel
theorem eX23_read_15 : decode cX23_read 15 = .ok (.istore_n 3, 1) := by decide +kernel
theorem eX23_read_16 : decode cX23_read 16 = .ok (.aload_n 2, 1) := by decide +kernel
theorem eX23_read_17 : decode cX23_read 17 = .ok (.invokevirtual 691, 3) := by decide +kernel
theorem eX23_read_20 : decode cX23_read 20 = .ok (.astore 4, 2) := by decide +kernel
theorem eX23_read_22 : decode cX23_read 22 = .ok (.aload_n 2, 1) := by decide +kernel
theorem eX23_read_23 : decode cX23_read 23 = .ok (.getfield 711, 3) := by decide +kernel
theorem eX23_read_26 : decode cX23_read 26 = .ok (.ifCond .le 22, 3) := by decide +kernel
theorem eX23_read_29 : decode cX23_read 29 = .ok (.aload_n 2, 1) := by decide +kernel
theorem eX23_read_30 : decode cX23_read 30 = .ok (.getfield 688, 3) := by decide +kernel
theorem eX23_read_33 : decode cX23_read 33 = .ok (.aload_n 2, 1) := by decide +kernel
theorem eX23_read_34 : decode cX23_read 34 = .ok (.getfield 711, 3) := by decide +kernel
theorem eX23_read_37 : decode cX23_read 37 = .ok (.iconst 1, 1) := by decide +kernel
theorem eX23_read_38 : decode cX23_read 38 = .ok (.isub, 1) := by decide +kernel
theorem eX23_read_39 : decode cX23_read 39 = .ok (.iaload, 1) := by decide +kernel
theorem eX23_read_40 : decode cX23_read 40 = .ok (.iconst (-1), 1) := by decide +kernel
theorem eX23_read_41 : decode cX23_read 41 = .ok (.if_icmp .ne 7, 3) := by decide +kernel
theorem eX23_read_44 : decode cX23_read 44 = .ok (.iconst 1, 1) := by decide +kernel
theorem eX23_read_45 : decode cX23_read 45 = .ok (.goto 4, 3) := by decide +kernel
theorem eX23_read_48 : decode cX23_read 48 = .ok (.iconst 0, 1) := by decide +kernel
theorem eX23_read_49 : decode cX23_read 49 = .ok (.istore 5, 2) := by decide +kernel
theorem eX23_read_51 : decode cX23_read 51 = .ok (.aload_n 0, 1) := by decide +kernel
theorem eX23_read_52 : decode cX23_read 52 = .ok (.getfield 640, 3) := by decide +kernel
theorem eX23_read_55 : decode cX23_read 55 = .ok (.iload_n 3, 1) := by decide +kernel
theorem eX23_read_56 : decode cX23_read 56 = .ok (.aload 4, 2) := by decide +kernel
theorem eX23_read_58 : decode cX23_read 58 = .ok (.invokestatic 517, 3) := by decide +kernel
theorem eX23_read_61 : decode cX23_read 61 = .ok (.ifCond .eq 7, 3) := by decide +kernel
theorem eX23_read_64 : decode cX23_read 64 = .ok (.iconst 1, 1) := by decide +kernel
theorem eX23_read_65 : decode cX23_read 65 = .ok (.goto 13, 3) := by decide +kernel
theorem eX23_read_68 : decode cX23_read 68 = .ok (.iload 5, 2) := by decide +kernel
theorem eX23_read_70 : decode cX23_read 70 = .ok (.ifCond .eq 7, 3) := by decide +kernel
theorem eX23_read_73 : decode cX23_read 73 = .ok (.iconst 5, 1) := by decide +kernel
theorem eX23_read_74 : decode cX23_read 74 = .ok (.goto 4, 3) := by decide +kernel
theorem eX23_read_77 : decode cX23_read 77 = .ok (.iconst 4, 1) := by decide +kernel
theorem eX23_read_78 : decode cX23_read 78 = .ok (.iastore, 1) := by decide +kernel
theorem eX23_read_79 : decode cX23_read 79 = .ok (.aload_n 0, 1) := by decide +kernel
theorem eX23_read_80 : decode cX23_read 80 = .ok (.iload_n 3, 1) := by decide +kernel
theorem eX23_read_81 : decode cX23_read 81 = .ok (.aload_n 2, 1) := by decide +kernel
theorem eX23_read_82 : decode cX23_read 82 = .ok (.invokevirtual 712, 3) := by decide +kernel
theorem eX23_read_85 : decode cX23_read 85 = .ok (.aload_n 0, 1) := by decide +kernel
theorem eX23_read_86 : decode cX23_read 86 = .ok (.iload_n 3, 1) := by decide +kernel
theorem eX23_read_87 : decode cX23_read 87 = .ok (.aload 4, 2) := by decide +kernel
theorem eX23_read_89 : decode cX23_read 89 = .ok (.invokevirtual 716, 3) := by decide +kernel
theorem eX23_read_92 : decode cX23_read 92 = .ok (.aload_n 0, 1) := by decide +kernel
theorem eX23_read_93 : decode cX23_read 93 = .ok (.dup, 1) := by decide +kernel
theorem eX23_read_94 : decode cX23_read 94 = .ok (.getfield 698, 3) := by decide +kernel
theorem eX23_read_97 : decode cX23_read 97 = .ok (.iconst 1, 1) := by decide +kernel
theorem eX23_read_98 : decode cX23_read 98 = .ok (.iadd, 1) := by decide +kernel
theorem eX23_read_99 : decode cX23_read 99 = .ok (.putfield 698, 3) := by decide +kernel
theorem eX23_read_102 : decode cX23_read 102 = .ok (.return_, 1) := by decide +kernel
theorem eX23_newLoan_0 : decode cX23_newLoan 0 = .ok (.aload_n 0, 1) := by decide +kernel
theorem eX23_newLoan_1 : decode cX23_newLoan 1 = .ok (.getfield 720, 3) := by decide +kernel
theorem eX23_newLoan_4 : decode cX23_newLoan 4 = .ok (.aload_n 0, 1) := by decide +kernel
theorem eX23_newLoan_5 : decode cX23_newLoan 5 = .ok (.getfield 723, 3) := by decide +kernel
theorem eX23_newLoan_8 : decode cX23_newLoan 8 = .ok (.aload_n 1, 1) := by decide +kernel
theorem eX23_newLoan_9 : decode cX23_newLoan 9 = .ok (.aastore, 1) := by decide +kernel
theorem eX23_newLoan_10 : decode cX23_newLoan 10 = .ok (.aload_n 0, 1) := by decide +kernel
theorem eX23_newLoan_11 : decode cX23_newLoan 11 = .ok (.getfield 726, 3) := by decide +kernel
theorem eX23_newLoan_14 : decode cX23_newLoan 14 = .ok (.aload_n 0, 1) := by decide +kernel
theorem eX23_newLoan_15 : decode cX23_newLoan 15 = .ok (.getfield 723, 3) := by decide +kernel
theorem eX23_newLoan_18 : decode cX23_newLoan 18 = .ok (.iload_n 2, 1) := by decide +kernel
theorem eX23_newLoan_19 : decode cX23_newLoan 19 = .ok (.bastore, 1) := by decide +kernel
theorem eX23_newLoan_20 : decode cX23_newLoan 20 = .ok (.aload_n 0, 1) := by decide +kernel
theorem eX23_newLoan_21 : decode cX23_newLoan 21 = .ok (.getfield 729, 3) := by decide +kernel
theorem eX23_newLoan_24 : decode cX23_newLoan 24 = .ok (.aload_n 0, 1) := by decide +kernel
theorem eX23_newLoan_25 : decode cX23_newLoan 25 = .ok (.getfield 723, 3) := by decide +kernel
theorem eX23_newLoan_28 : decode cX23_newLoan 28 = .ok (.iconst (-1), 1) := by decide +kernel
theorem eX23_newLoan_29 : decode cX23_newLoan 29 = .ok (.iastore, 1) := by decide +kernel
theorem eX23_newLoan_30 : decode cX23_newLoan 30 = .ok (.aload_n 0, 1) := by decide +kernel
theorem eX23_newLoan_31 : decode cX23_newLoan 31 = .ok (.dup, 1) := by decide +kernel
theorem eX23_newLoan_32 : decode cX23_newLoan 32 = .ok (.getfield 723, 3) := by decide +kernel
theorem eX23_newLoan_35 : decode cX23_newLoan 35 = .ok (.iconst 1, 1) := by decide +kernel
theorem eX23_newLoan_36 : decode cX23_newLoan 36 = .ok (.iadd, 1) := by decide +kernel
theorem eX23_newLoan_37 : decode cX23_newLoan 37 = .ok (.putfield 723, 3) := by decide +kernel
theorem eX23_newLoan_40 : decode cX23_newLoan 40 = .ok (.aload_n 0, 1) := by decide +kernel
theorem eX23_newLoan_41 : decode cX23_newLoan 41 = .ok (.getfield 723, 3) := by decide +kernel
theorem eX23_newLoan_44 : decode cX23_newLoan 44 = .ok (.iconst 1, 1) := by decide +kernel
theorem eX23_newLoan_45 : decode cX23_newLoan 45 = .ok (.isub, 1) := by decide +kernel
theorem eX23_newLoan_46 : decode cX23_newLoan 46 = .ok (.ireturn, 1) := by decide +kernel
theorem eX23_lend_0 : decode cX23_lend 0 = .ok (.aload_n 0, 1) := by decide +kernel
theorem eX23_lend_1 : decode cX23_lend 1 = .ok (.aload_n 1, 1) := by decide +kernel
theorem eX23_lend_2 : decode cX23_lend 2 = .ok (.getfield 331, 3) := by decide +kernel
theorem eX23_lend_5 : decode cX23_lend 5 = .ok (.invokevirtual 704, 3) := by decide +kernel
theorem eX23_lend_8 : decode cX23_lend 8 = .ok (.astore_n 2, 1) := by decide +kernel
theorem eX23_lend_9 : decode cX23_lend 9 = .ok (.aload_n 0, 1) := by decide +kernel
theorem eX23_lend_10 : decode cX23_lend 10 = .ok (.iconst 3, 1) := by decide +kernel
theorem eX23_lend_11 : decode cX23_lend 11 = .ok (.aload_n 1, 1) := by decide +kernel
theorem eX23_lend_12 : decode cX23_lend 12 = .ok (.getfield 331, 3) := by decide +kernel
theorem eX23_lend_15 : decode cX23_lend 15 = .ok (.getfield 350, 3) := by decide +kernel
theorem eX23_lend_18 : decode cX23_lend 18 = .ok (.invokevirtual 708, 3) := by decide +kernel
theorem eX23_lend_21 : decode cX23_lend 21 = .ok (.istore_n 3, 1) := by decide +kernel
theorem eX23_lend_22 : decode cX23_lend 22 = .ok (.aload_n 0, 1) := by decide +kernel
theorem eX23_lend_23 : decode cX23_lend 23 = .ok (.getfield 640, 3) := by decide +kernel
theorem eX23_lend_26 : decode cX23_lend 26 = .ok (.iload_n 3, 1) := by decide +kernel
theorem eX23_lend_27 : decode cX23_lend 27 = .ok (.aload_n 1, 1) := by decide +kernel
theorem eX23_lend_28 : decode cX23_lend 28 = .ok (.getfield 358, 3) := by decide +kernel
theorem eX23_lend_31 : decode cX23_lend 31 = .ok (.ifCond .eq 7, 3) := by decide +kernel
theorem eX23_lend_34 : decode cX23_lend 34 = .ok (.iconst 3, 1) := by decide +kernel
theorem eX23_lend_35 : decode cX23_lend 35 = .ok (.goto 4, 3) := by decide +kernel
theorem eX23_lend_38 : decode cX23_lend 38 = .ok (.iconst 2, 1) := by decide +kernel
theorem eX23_lend_39 : decode cX23_lend 39 = .ok (.iastore, 1) := by decide +kernel
theorem eX23_lend_40 : decode cX23_lend 40 = .ok (.aload_n 0, 1) := by decide +kernel
theorem eX23_lend_41 : decode cX23_lend 41 = .ok (.iload_n 3, 1) := by decide +kernel
theorem eX23_lend_42 : decode cX23_lend 42 = .ok (.aload_n 2, 1) := by decide +kernel
theorem eX23_lend_43 : decode cX23_lend 43 = .ok (.invokevirtual 712, 3) := by decide +kernel
theorem eX23_lend_46 : decode cX23_lend 46 = .ok (.aload_n 0, 1) := by decide +kernel
theorem eX23_lend_47 : decode cX23_lend 47 = .ok (.getfield 646, 3) := by decide +kernel
theorem eX23_lend_50 : decode cX23_lend 50 = .ok (.iload_n 3, 1) := by decide +kernel
theorem eX23_lend_51 : decode cX23_lend 51 = .ok (.aload_n 0, 1) := by decide +kernel
theorem eX23_lend_52 : decode cX23_lend 52 = .ok (.aload_n 2, 1) := by decide +kernel
theorem eX23_lend_53 : decode cX23_lend 53 = .ok (.aload_n 1, 1) := by decide +kernel
theorem eX23_lend_54 : decode cX23_lend 54 = .ok (.getfield 358, 3) := by decide +kernel
theorem eX23_lend_57 : decode cX23_lend 57 = .ok (.ifCond .ne 7, 3) := by decide +kernel
theorem eX23_lend_60 : decode cX23_lend 60 = .ok (.iconst 1, 1) := by decide +kernel
theorem eX23_lend_61 : decode cX23_lend 61 = .ok (.goto 4, 3) := by decide +kernel
theorem eX23_lend_64 : decode cX23_lend 64 = .ok (.iconst 0, 1) := by decide +kernel
theorem eX23_lend_65 : decode cX23_lend 65 = .ok (.invokevirtual 732, 3) := by decide +kernel
theorem eX23_lend_68 : decode cX23_lend 68 = .ok (.iastore, 1) := by decide +kernel
theorem eX23_lend_69 : decode cX23_lend 69 = .ok (.aload_n 0, 1) := by decide +kernel
theorem eX23_lend_70 : decode cX23_lend 70 = .ok (.getfield 643, 3) := by decide +kernel
theorem eX23_lend_73 : decode cX23_lend 73 = .ok (.iload_n 3, 1) := by decide +kernel
theorem eX23_lend_74 : decode cX23_lend 74 = .ok (.aload_n 0, 1) := by decide +kernel
theorem eX23_lend_75 : decode cX23_lend 75 = .ok (.getfield 698, 3) := by decide +kernel
theorem eX23_lend_78 : decode cX23_lend 78 = .ok (.invokestatic 701, 3) := by decide +kernel
theorem eX23_lend_81 : decode cX23_lend 81 = .ok (.iastore, 1) := by decide +kernel
theorem eX23_lend_82 : decode cX23_lend 82 = .ok (.aload_n 0, 1) := by decide +kernel
theorem eX23_lend_83 : decode cX23_lend 83 = .ok (.dup, 1) := by decide +kernel
theorem eX23_lend_84 : decode cX23_lend 84 = .ok (.getfield 698, 3) := by decide +kernel
theorem eX23_lend_87 : decode cX23_lend 87 = .ok (.iconst 1, 1) := by decide +kernel
theorem eX23_lend_88 : decode cX23_lend 88 = .ok (.iadd, 1) := by decide +kernel
theorem eX23_lend_89 : decode cX23_lend 89 = .ok (.putfield 698, 3) := by decide +kernel
theorem eX23_lend_92 : decode cX23_lend 92 = .ok (.return_, 1) := by decide +kernel
theorem eX23_isHeld_0 : decode cX23_isHeld 0 = .ok (.aload_n 1, 1) := by decide +kernel
theorem eX23_isHeld_1 : decode cX23_isHeld 1 = .ok (.getfield 337, 3) := by decide +kernel
theorem eX23_isHeld_4 : decode cX23_isHeld 4 = .ok (.iload_n 2, 1) := by decide +kernel
theorem eX23_isHeld_5 : decode cX23_isHeld 5 = .ok (.aaload, 1) := by decide +kernel
theorem eX23_isHeld_6 : decode cX23_isHeld 6 = .ok (.getfield 484, 3) := by decide +kernel
theorem eX23_isHeld_9 : decode cX23_isHeld 9 = .ok (.invokestatic 503, 3) := by decide +kernel
theorem eX23_isHeld_12 : decode cX23_isHeld 12 = .ok (.ifCond .eq 29, 3) := by decide +kernel
theorem eX23_isHeld_15 : decode cX23_isHeld 15 = .ok (.iload_n 3, 1) := by decide +kernel
theorem eX23_isHeld_16 : decode cX23_isHeld 16 = .ok (.ifCond .lt 21, 3) := by decide +kernel
theorem eX23_isHeld_19 : decode cX23_isHeld 19 = .ok (.aload_n 0, 1) := by decide +kernel
theorem eX23_isHeld_20 : decode cX23_isHeld 20 = .ok (.getfield 232, 3) := by decide +kernel
theorem eX23_isHeld_23 : decode cX23_isHeld 23 = .ok (.aload_n 1, 1) := by decide +kernel
theorem eX23_isHeld_24 : decode cX23_isHeld 24 = .ok (.getfield 510, 3) := by decide +kernel
theorem eX23_isHeld_27 : decode cX23_isHeld 27 = .ok (.aaload, 1) := by decide +kernel
theorem eX23_isHeld_28 : decode cX23_isHeld 28 = .ok (.getfield 198, 3) := by decide +kernel
theorem eX23_isHeld_31 : decode cX23_isHeld 31 = .ok (.iload_n 2, 1) := by decide +kernel
theorem eX23_isHeld_32 : decode cX23_isHeld 32 = .ok (.iaload, 1) := by decide +kernel
theorem eX23_isHeld_33 : decode cX23_isHeld 33 = .ok (.iload_n 3, 1) := by decide +kernel
theorem eX23_isHeld_34 : decode cX23_isHeld 34 = .ok (.if_icmp .ne 7, 3) := by decide +kernel
theorem eX23_isHeld_37 : decode cX23_isHeld 37 = .ok (.iconst 1, 1) := by decide +kernel
theorem eX23_isHeld_38 : decode cX23_isHeld 38 = .ok (.goto 4, 3) := by decide +kernel
theorem eX23_isHeld_41 : decode cX23_isHeld 41 = .ok (.iconst 0, 1) := by decide +kernel
theorem eX23_isHeld_42 : decode cX23_isHeld 42 = .ok (.ireturn, 1) := by decide +kernel
theorem eX23_held_0 : decode cX23_held 0 = .ok (.iconst 0, 1) := by decide +kernel
theorem eX23_held_1 : decode cX23_held 1 = .ok (.istore 4, 2) := by decide +kernel
theorem eX23_held_3 : decode cX23_held 3 = .ok (.iconst 0, 1) := by decide +kernel
theorem eX23_held_4 : decode cX23_held 4 = .ok (.istore 5, 2) := by decide +kernel
theorem eX23_held_6 : decode cX23_held 6 = .ok (.iload 5, 2) := by decide +kernel
theorem eX23_held_8 : decode cX23_held 8 = .ok (.aload_n 1, 1) := by decide +kernel
theorem eX23_held_9 : decode cX23_held 9 = .ok (.getfield 342, 3) := by decide +kernel
theorem eX23_held_12 : decode cX23_held 12 = .ok (.if_icmp .ge 23, 3) := by decide +kernel
theorem eX23_held_15 : decode cX23_held 15 = .ok (.aload_n 0, 1) := by decide +kernel
theorem eX23_held_16 : decode cX23_held 16 = .ok (.aload_n 1, 1) := by decide +kernel
theorem eX23_held_17 : decode cX23_held 17 = .ok (.iload 5, 2) := by decide +kernel
theorem eX23_held_19 : decode cX23_held 19 = .ok (.iload_n 3, 1) := by decide +kernel
theorem eX23_held_20 : decode cX23_held 20 = .ok (.invokevirtual 759, 3) := by decide +kernel
theorem eX23_held_23 : decode cX23_held 23 = .ok (.ifCond .eq 6, 3) := by decide +kernel
theorem eX23_held_26 : decode cX23_held 26 = .ok (.iinc 4 1, 3) := by decide +kernel
theorem eX23_held_29 : decode cX23_held 29 = .ok (.iinc 5 1, 3) := by decide +kernel
theorem eX23_held_32 : decode cX23_held 32 = .ok (.goto (-26), 3) := by decide +kernel
theorem eX23_held_35 : decode cX23_held 35 = .ok (.iload 4, 2) := by decide +kernel
theorem eX23_held_37 : decode cX23_held 37 = .ok (.ifCond .ne 5, 3) := by decide +kernel
theorem eX23_held_40 : decode cX23_held 40 = .ok (.aconst_null, 1) := by decide +kernel
theorem eX23_held_41 : decode cX23_held 41 = .ok (.areturn, 1) := by decide +kernel
theorem eX23_held_42 : decode cX23_held 42 = .ok (.iload 4, 2) := by decide +kernel
theorem eX23_held_44 : decode cX23_held 44 = .ok (.newarray .int, 2) := by decide +kernel
theorem eX23_held_46 : decode cX23_held 46 = .ok (.astore 5, 2) := by decide +kernel
theorem eX23_held_48 : decode cX23_held 48 = .ok (.iconst 0, 1) := by decide +kernel
theorem eX23_held_49 : decode cX23_held 49 = .ok (.istore 4, 2) := by decide +kernel
theorem eX23_held_51 : decode cX23_held 51 = .ok (.iconst 0, 1) := by decide +kernel
theorem eX23_held_52 : decode cX23_held 52 = .ok (.istore 6, 2) := by decide +kernel
theorem eX23_held_54 : decode cX23_held 54 = .ok (.iload 6, 2) := by decide +kernel
theorem eX23_held_56 : decode cX23_held 56 = .ok (.aload_n 1, 1) := by decide +kernel
theorem eX23_held_57 : decode cX23_held 57 = .ok (.getfield 342, 3) := by decide +kernel
theorem eX23_held_60 : decode cX23_held 60 = .ok (.if_icmp .ge 35, 3) := by decide +kernel
theorem eX23_held_63 : decode cX23_held 63 = .ok (.aload_n 0, 1) := by decide +kernel
theorem eX23_held_64 : decode cX23_held 64 = .ok (.aload_n 1, 1) := by decide +kernel
theorem eX23_held_65 : decode cX23_held 65 = .ok (.iload 6, 2) := by decide +kernel
theorem eX23_held_67 : decode cX23_held 67 = .ok (.iload_n 3, 1) := by decide +kernel
theorem eX23_held_68 : decode cX23_held 68 = .ok (.invokevirtual 759, 3) := by decide +kernel
theorem eX23_held_71 : decode cX23_held 71 = .ok (.ifCond .eq 18, 3) := by decide +kernel
theorem eX23_held_74 : decode cX23_held 74 = .ok (.aload 5, 2) := by decide +kernel
theorem eX23_held_76 : decode cX23_held 76 = .ok (.iload 4, 2) := by decide +kernel
theorem eX23_held_78 : decode cX23_held 78 = .ok (.iload_n 2, 1) := by decide +kernel
theorem eX23_held_79 : decode cX23_held 79 = .ok (.iload 6, 2) := by decide +kernel
theorem eX23_held_81 : decode cX23_held 81 = .ok (.iadd, 1) := by decide +kernel
theorem eX23_held_82 : decode cX23_held 82 = .ok (.invokestatic 701, 3) := by decide +kernel
theorem eX23_held_85 : decode cX23_held 85 = .ok (.iastore, 1) := by decide +kernel
theorem eX23_held_86 : decode cX23_held 86 = .ok (.iinc 4 1, 3) := by decide +kernel
theorem eX23_held_89 : decode cX23_held 89 = .ok (.iinc 6 1, 3) := by decide +kernel
theorem eX23_held_92 : decode cX23_held 92 = .ok (.goto (-38), 3) := by decide +kernel
theorem eX23_held_95 : decode cX23_held 95 = .ok (.aload 5, 2) := by decide +kernel
theorem eX23_held_97 : decode cX23_held 97 = .ok (.areturn, 1) := by decide +kernel
theorem eX23_order_0 : decode cX23_order 0 = .ok (.aload_n 1, 1) := by decide +kernel
theorem eX23_order_1 : decode cX23_order 1 = .ok (.getfield 342, 3) := by decide +kernel
theorem eX23_order_4 : decode cX23_order 4 = .ok (.newarray .int, 2) := by decide +kernel
theorem eX23_order_6 : decode cX23_order 6 = .ok (.astore_n 2, 1) := by decide +kernel
theorem eX23_order_7 : decode cX23_order 7 = .ok (.iconst 0, 1) := by decide +kernel
theorem eX23_order_8 : decode cX23_order 8 = .ok (.istore_n 3, 1) := by decide +kernel
theorem eX23_order_9 : decode cX23_order 9 = .ok (.iload_n 3, 1) := by decide +kernel
theorem eX23_order_10 : decode cX23_order 10 = .ok (.aload_n 1, 1) := by decide +kernel
theorem eX23_order_11 : decode cX23_order 11 = .ok (.getfield 342, 3) := by decide +kernel
theorem eX23_order_14 : decode cX23_order 14 = .ok (.if_icmp .ge 31, 3) := by decide +kernel
theorem eX23_order_17 : decode cX23_order 17 = .ok (.aload_n 2, 1) := by decide +kernel
theorem eX23_order_18 : decode cX23_order 18 = .ok (.iload_n 3, 1) := by decide +kernel
theorem eX23_order_19 : decode cX23_order 19 = .ok (.aload_n 0, 1) := by decide +kernel
theorem eX23_order_20 : decode cX23_order 20 = .ok (.aload_n 0, 1) := by decide +kernel
theorem eX23_order_21 : decode cX23_order 21 = .ok (.getfield 232, 3) := by decide +kernel
theorem eX23_order_24 : decode cX23_order 24 = .ok (.aload_n 1, 1) := by decide +kernel
theorem eX23_order_25 : decode cX23_order 25 = .ok (.getfield 510, 3) := by decide +kernel
theorem eX23_order_28 : decode cX23_order 28 = .ok (.aaload, 1) := by decide +kernel
theorem eX23_order_29 : decode cX23_order 29 = .ok (.aload_n 1, 1) := by decide +kernel
theorem eX23_order_30 : decode cX23_order 30 = .ok (.getfield 339, 3) := by decide +kernel
theorem eX23_order_33 : decode cX23_order 33 = .ok (.iload_n 3, 1) := by decide +kernel
theorem eX23_order_34 : decode cX23_order 34 = .ok (.iaload, 1) := by decide +kernel
theorem eX23_order_35 : decode cX23_order 35 = .ok (.invokevirtual 551, 3) := by decide +kernel
theorem eX23_order_38 : decode cX23_order 38 = .ok (.iastore, 1) := by decide +kernel
theorem eX23_order_39 : decode cX23_order 39 = .ok (.iinc 3 1, 3) := by decide +kernel
theorem eX23_order_42 : decode cX23_order 42 = .ok (.goto (-33), 3) := by decide +kernel
theorem eX23_order_45 : decode cX23_order 45 = .ok (.aload_n 2, 1) := by decide +kernel
theorem eX23_order_46 : decode cX23_order 46 = .ok (.areturn, 1) := by decide +kernel
theorem eX23_giveList_0 : decode cX23_giveList 0 = .ok (.aload_n 0, 1) := by decide +kernel
theorem eX23_giveList_1 : decode cX23_giveList 1 = .ok (.getfield 698, 3) := by decide +kernel
theorem eX23_giveList_4 : decode cX23_giveList 4 = .ok (.istore_n 2, 1) := by decide +kernel
theorem eX23_giveList_5 : decode cX23_giveList 5 = .ok (.iconst 0, 1) := by decide +kernel
theorem eX23_giveList_6 : decode cX23_giveList 6 = .ok (.istore_n 3, 1) := by decide +kernel
theorem eX23_giveList_7 : decode cX23_giveList 7 = .ok (.iload_n 3, 1) := by decide +kernel
theorem eX23_giveList_8 : decode cX23_giveList 8 = .ok (.aload_n 1, 1) := by decide +kernel
theorem eX23_giveList_9 : decode cX23_giveList 9 = .ok (.getfield 342, 3) := by decide +kernel
theorem eX23_giveList_12 : decode cX23_giveList 12 = .ok (.if_icmp .ge 19, 3) := by decide +kernel
theorem eX23_giveList_15 : decode cX23_giveList 15 = .ok (.aload_n 0, 1) := by decide +kernel
theorem eX23_giveList_16 : decode cX23_giveList 16 = .ok (.aload_n 1, 1) := by decide +kernel
theorem eX23_giveList_17 : decode cX23_giveList 17 = .ok (.getfield 337, 3) := by decide +kernel
theorem eX23_giveList_20 : decode cX23_giveList 20 = .ok (.iload_n 3, 1) := by decide +kernel
theorem eX23_giveList_21 : decode cX23_giveList 21 = .ok (.aaload, 1) := by decide +kernel
theorem eX23_giveList_22 : decode cX23_giveList 22 = .ok (.invokevirtual 739, 3) := by decide +kernel
theorem eX23_giveList_25 : decode cX23_giveList 25 = .ok (.iinc 3 1, 3) := by decide +kernel
theorem eX23_giveList_28 : decode cX23_giveList 28 = .ok (.goto (-21), 3) := by decide +kernel
theorem eX23_giveList_31 : decode cX23_giveList 31 = .ok (.aload_n 0, 1) := by decide +kernel
theorem eX23_giveList_32 : decode cX23_giveList 32 = .ok (.aload_n 1, 1) := by decide +kernel
theorem eX23_giveList_33 : decode cX23_giveList 33 = .ok (.getfield 330, 3) := by decide +kernel
theorem eX23_giveList_36 : decode cX23_giveList 36 = .ok (.iconst 3, 1) := by decide +kernel
theorem eX23_giveList_37 : decode cX23_giveList 37 = .ok (.if_icmp .ne 8, 3) := by decide +kernel
theorem eX23_giveList_40 : decode cX23_giveList 40 = .ok (.bipush 10, 2) := by decide +kernel
theorem eX23_giveList_42 : decode cX23_giveList 42 = .ok (.goto 18, 3) := by decide +kernel
theorem eX23_giveList_45 : decode cX23_giveList 45 = .ok (.aload_n 1, 1) := by decide +kernel
theorem eX23_giveList_46 : decode cX23_giveList 46 = .ok (.getfield 330, 3) := by decide +kernel
theorem eX23_giveList_49 : decode cX23_giveList 49 = .ok (.iconst 5, 1) := by decide +kernel
theorem eX23_giveList_50 : decode cX23_giveList 50 = .ok (.if_icmp .ne 8, 3) := by decide +kernel
theorem eX23_giveList_53 : decode cX23_giveList 53 = .ok (.bipush 8, 2) := by decide +kernel
theorem eX23_giveList_55 : decode cX23_giveList 55 = .ok (.goto 5, 3) := by decide +kernel
theorem eX23_giveList_58 : decode cX23_giveList 58 = .ok (.bipush 9, 2) := by decide +kernel
theorem eX23_giveList_60 : decode cX23_giveList 60 = .ok (.aload_n 1, 1) := by decide +kernel
theorem eX23_giveList_61 : decode cX23_giveList 61 = .ok (.getfield 350, 3) := by decide +kernel
theorem eX23_giveList_64 : decode cX23_giveList 64 = .ok (.invokevirtual 708, 3) := by decide +kernel
theorem eX23_giveList_67 : decode cX23_giveList 67 = .ok (.istore_n 3, 1) := by decide +kernel
theorem eX23_giveList_68 : decode cX23_giveList 68 = .ok (.aload_n 0, 1) := by decide +kernel
theorem eX23_giveList_69 : decode cX23_giveList 69 = .ok (.getfield 629, 3) := by decide +kernel
theorem eX23_giveList_72 : decode cX23_giveList 72 = .ok (.iload_n 3, 1) := by decide +kernel
theorem eX23_giveList_73 : decode cX23_giveList 73 = .ok (.aload_n 1, 1) := by decide +kernel
theorem eX23_giveList_74 : decode cX23_giveList 74 = .ok (.getfield 510, 3) := by decide +kernel
theorem eX23_giveList_77 : decode cX23_giveList 77 = .ok (.iastore, 1) := by decide +kernel
theorem eX23_giveList_78 : decode cX23_giveList 78 = .ok (.aload_n 0, 1) := by decide +kernel
theorem eX23_giveList_79 : decode cX23_giveList 79 = .ok (.getfield 632, 3) := by decide +kernel
theorem eX23_giveList_82 : decode cX23_giveList 82 = .ok (.iload_n 3, 1) := by decide +kernel
theorem eX23_giveList_83 : decode cX23_giveList 83 = .ok (.aload_n 1, 1) := by decide +kernel
theorem eX23_giveList_84 : decode cX23_giveList 84 = .ok (.getfield 555, 3) := by decide +kernel
theorem eX23_giveList_87 : decode cX23_giveList 87 = .ok (.iastore, 1) := by decide +kernel
theorem eX23_giveList_88 : decode cX23_giveList 88 = .ok (.aload_n 0, 1) := by decide +kernel
theorem eX23_giveList_89 : decode cX23_giveList 89 = .ok (.getfield 638, 3) := by decide +kernel
theorem eX23_giveList_92 : decode cX23_giveList 92 = .ok (.iload_n 3, 1) := by decide +kernel
theorem eX23_giveList_93 : decode cX23_giveList 93 = .ok (.aload_n 1, 1) := by decide +kernel
theorem eX23_giveList_94 : decode cX23_giveList 94 = .ok (.getfield 342, 3) := by decide +kernel
theorem eX23_giveList_97 : decode cX23_giveList 97 = .ok (.i2l, 1) := by decide +kernel
theorem eX23_giveList_98 : decode cX23_giveList 98 = .ok (.lastore, 1) := by decide +kernel
theorem eX23_giveList_99 : decode cX23_giveList 99 = .ok (.aload_n 0, 1) := by decide +kernel
theorem eX23_giveList_100 : decode cX23_giveList 100 = .ok (.iload_n 2, 1) := by decide +kernel
theorem eX23_giveList_101 : decode cX23_giveList 101 = .ok (.putfield 698, 3) := by decide +kernel
theorem eX23_giveList_104 : decode cX23_giveList 104 = .ok (.aload_n 1, 1) := by decide +kernel
theorem eX23_giveList_105 : decode cX23_giveList 105 = .ok (.getfield 330, 3) := by decide +kernel
theorem eX23_giveList_108 : decode cX23_giveList 108 = .ok (.iconst 3, 1) := by decide +kernel
theorem eX23_giveList_109 : decode cX23_giveList 109 = .ok (.if_icmp .ne 40, 3) := by decide +kernel
theorem eX23_giveList_112 : decode cX23_giveList 112 = .ok (.aload_n 0, 1) := by decide +kernel
theorem eX23_giveList_113 : decode cX23_giveList 113 = .ok (.getfield 653, 3) := by decide +kernel
theorem eX23_giveList_116 : decode cX23_giveList 116 = .ok (.iload_n 3, 1) := by decide +kernel
theorem eX23_giveList_117 : decode cX23_giveList 117 = .ok (.aload_n 0, 1) := by decide +kernel
theorem eX23_giveList_118 : decode cX23_giveList 118 = .ok (.aload_n 1, 1) := by decide +kernel
theorem eX23_giveList_119 : decode cX23_giveList 119 = .ok (.iload_n 2, 1) := by decide +kernel
theorem eX23_giveList_120 : decode cX23_giveList 120 = .ok (.iconst (-1), 1) := by decide +kernel
theorem eX23_giveList_121 : decode cX23_giveList 121 = .ok (.invokevirtual 751, 3) := by decide +kernel
theorem eX23_giveList_124 : decode cX23_giveList 124 = .ok (.aastore, 1) := by decide +kernel
theorem eX23_giveList_125 : decode cX23_giveList 125 = .ok (.aload_n 0, 1) := by decide +kernel
theorem eX23_giveList_126 : decode cX23_giveList 126 = .ok (.getfield 649, 3) := by decide +kernel
theorem eX23_giveList_129 : decode cX23_giveList 129 = .ok (.iload_n 3, 1) := by decide +kernel
theorem eX23_giveList_130 : decode cX23_giveList 130 = .ok (.aload_n 0, 1) := by decide +kernel
theorem eX23_giveList_131 : decode cX23_giveList 131 = .ok (.aload_n 1, 1) := by decide +kernel
theorem eX23_giveList_132 : decode cX23_giveList 132 = .ok (.iload_n 2, 1) := by decide +kernel
theorem eX23_giveList_133 : decode cX23_giveList 133 = .ok (.aload_n 0, 1) := by decide +kernel
theorem eX23_giveList_134 : decode cX23_giveList 134 = .ok (.getfield 232, 3) := by decide +kernel
theorem eX23_giveList_137 : decode cX23_giveList 137 = .ok (.aload_n 1, 1) := by decide +kernel
theorem eX23_giveList_138 : decode cX23_giveList 138 = .ok (.getfield 510, 3) := by decide +kernel
theorem eX23_giveList_141 : decode cX23_giveList 141 = .ok (.aaload, 1) := by decide +kernel
theorem eX23_giveList_142 : decode cX23_giveList 142 = .ok (.getfield 425, 3) := by decide +kernel
theorem eX23_giveList_145 : decode cX23_giveList 145 = .ok (.invokevirtual 751, 3) := by decide +kernel
theorem eX23_giveList_148 : decode cX23_giveList 148 = .ok (.aastore, 1) := by decide +kernel
theorem eX23_giveList_149 : decode cX23_giveList 149 = .ok (.aload_n 1, 1) := by decide +kernel
theorem eX23_giveList_150 : decode cX23_giveList 150 = .ok (.getfield 330, 3) := by decide +kernel
theorem eX23_giveList_153 : decode cX23_giveList 153 = .ok (.iconst 5, 1) := by decide +kernel
theorem eX23_giveList_154 : decode cX23_giveList 154 = .ok (.if_icmp .ne 14, 3) := by decide +kernel
theorem eX23_giveList_157 : decode cX23_giveList 157 = .ok (.aload_n 0, 1) := by decide +kernel
theorem eX23_giveList_158 : decode cX23_giveList 158 = .ok (.getfield 668, 3) := by decide +kernel
theorem eX23_giveList_161 : decode cX23_giveList 161 = .ok (.iload_n 3, 1) := by decide +kernel
theorem eX23_giveList_162 : decode cX23_giveList 162 = .ok (.aload_n 0, 1) := by decide +kernel
theorem eX23_giveList_163 : decode cX23_giveList 163 = .ok (.aload_n 1, 1) := by decide +kernel
theorem eX23_giveList_164 : decode cX23_giveList 164 = .ok (.invokevirtual 755, 3) := by decide +kernel
theorem eX23_giveList_167 : decode cX23_giveList 167 = .ok (.aastore, 1) := by decide +kernel
theorem eX23_giveList_168 : decode cX23_giveList 168 = .ok (.aload_n 1, 1) := by decide +kernel
theorem eX23_giveList_169 : decode cX23_giveList 169 = .ok (.getfield 330, 3) := by decide +kernel
theorem eX23_giveList_172 : decode cX23_giveList 172 = .ok (.iconst 3, 1) := by decide +kernel
theorem eX23_giveList_173 : decode cX23_giveList 173 = .ok (.if_icmp .ne 37, 3) := by decide +kernel
theorem eX23_giveList_176 : decode cX23_giveList 176 = .ok (.aload_n 0, 1) := by decide +kernel
theorem eX23_giveList_177 : decode cX23_giveList 177 = .ok (.iload_n 3, 1) := by decide +kernel
theorem eX23_giveList_178 : decode cX23_giveList 178 = .ok (.aload_n 1, 1) := by decide +kernel
theorem eX23_giveList_179 : decode cX23_giveList 179 = .ok (.getfield 484, 3) := by decide +kernel
theorem eX23_giveList_182 : decode cX23_giveList 182 = .ok (.invokevirtual 716, 3) := by decide +kernel
theorem eX23_giveList_185 : decode cX23_giveList 185 = .ok (.aload_n 1, 1) := by decide +kernel
theorem eX23_giveList_186 : decode cX23_giveList 186 = .ok (.getfield 484, 3) := by decide +kernel
theorem eX23_giveList_189 : decode cX23_giveList 189 = .ok (.getfield 386, 3) := by decide +kernel
theorem eX23_giveList_192 : decode cX23_giveList 192 = .ok (.bipush 8, 2) := by decide +kernel
theorem eX23_giveList_194 : decode cX23_giveList 194 = .ok (.if_icmp .eq 26, 3) := by decide +kernel
theorem eX23_giveList_197 : decode cX23_giveList 197 = .ok (.aload_n 0, 1) := by decide +kernel
theorem eX23_giveList_198 : decode cX23_giveList 198 = .ok (.dup, 1) := by decide +kernel
theorem eX23_giveList_199 : decode cX23_giveList 199 = .ok (.getfield 698, 3) := by decide +kernel
theorem eX23_giveList_202 : decode cX23_giveList 202 = .ok (.iconst 1, 1) := by decide +kernel
theorem eX23_giveList_203 : decode cX23_giveList 203 = .ok (.iadd, 1) := by decide +kernel
theorem eX23_giveList_204 : decode cX23_giveList 204 = .ok (.putfield 698, 3) := by decide +kernel
theorem eX23_giveList_207 : decode cX23_giveList 207 = .ok (.goto 13, 3) := by decide +kernel
theorem eX23_giveList_210 : decode cX23_giveList 210 = .ok (.aload_n 0, 1) := by decide +kernel
theorem eX23_giveList_211 : decode cX23_giveList 211 = .ok (.dup, 1) := by decide +kernel
theorem eX23_giveList_212 : decode cX23_giveList 212 = .ok (.getfield 698, 3) := by decide +kernel
theorem eX23_giveList_215 : decode cX23_giveList 215 = .ok (.iconst 1, 1) := by decide +kernel
theorem eX23_giveList_216 : decode cX23_giveList 216 = .ok (.iadd, 1) := by decide +kernel
theorem eX23_giveList_217 : decode cX23_giveList 217 = .ok (.putfield 698, 3) := by decide +kernel
theorem eX23_giveList_220 : decode cX23_giveList 220 = .ok (.return_, 1) := by decide +kernel
theorem eX23_giveChain_0 : decode cX23_giveChain 0 = .ok (.aload_n 0, 1) := by decide +kernel
theorem eX23_giveChain_1 : decode cX23_giveChain 1 = .ok (.aload_n 1, 1) := by decide +kernel
theorem eX23_giveChain_2 : decode cX23_giveChain 2 = .ok (.getfield 331, 3) := by decide +kernel
theorem eX23_giveChain_5 : decode cX23_giveChain 5 = .ok (.invokevirtual 739, 3) := by decide +kernel
theorem eX23_giveChain_8 : decode cX23_giveChain 8 = .ok (.aload_n 1, 1) := by decide +kernel
theorem eX23_giveChain_9 : decode cX23_giveChain 9 = .ok (.getfield 342, 3) := by decide +kernel
theorem eX23_giveChain_12 : decode cX23_giveChain 12 = .ok (.newarray .int, 2) := by decide +kernel
theorem eX23_giveChain_14 : decode cX23_giveChain 14 = .ok (.astore_n 2, 1) := by decide +kernel
theorem eX23_giveChain_15 : decode cX23_giveChain 15 = .ok (.iconst 0, 1) := by decide +kernel
theorem eX23_giveChain_16 : decode cX23_giveChain 16 = .ok (.istore_n 3, 1) := by decide +kernel
theorem eX23_giveChain_17 : decode cX23_giveChain 17 = .ok (.iload_n 3, 1) := by decide +kernel
theorem eX23_giveChain_18 : decode cX23_giveChain 18 = .ok (.aload_n 1, 1) := by decide +kernel
theorem eX23_giveChain_19 : decode cX23_giveChain 19 = .ok (.getfield 342, 3) := by decide +kernel
theorem eX23_giveChain_22 : decode cX23_giveChain 22 = .ok (.if_icmp .ge 124, 3) := by decide +kernel
theorem eX23_giveChain_25 : decode cX23_giveChain 25 = .ok (.aload_n 0, 1) := by decide +kernel
theorem eX23_giveChain_26 : decode cX23_giveChain 26 = .ok (.getfield 25, 3) := by decide +kernel
theorem eX23_giveChain_29 : decode cX23_giveChain 29 = .ok (.aload_n 1, 1) := by decide +kernel
theorem eX23_giveChain_30 : decode cX23_giveChain 30 = .ok (.getfield 339, 3) := by decide +kernel
theorem eX23_giveChain_33 : decode cX23_giveChain 33 = .ok (.iload_n 3, 1) := by decide +kernel
theorem eX23_giveChain_34 : decode cX23_giveChain 34 = .ok (.iaload, 1) := by decide +kernel
theorem eX23_giveChain_35 : decode cX23_giveChain 35 = .ok (.iaload, 1) := by decide +kernel
theorem eX23_giveChain_36 : decode cX23_giveChain 36 = .ok (.istore 4, 2) := by decide +kernel
theorem eX23_giveChain_38 : decode cX23_giveChain 38 = .ok (.iload 4, 2) := by decide +kernel
theorem eX23_giveChain_40 : decode cX23_giveChain 40 = .ok (.bipush 51, 2) := by decide +kernel
theorem eX23_giveChain_42 : decode cX23_giveChain 42 = .ok (.if_icmp .eq 10, 3) := by decide +kernel
theorem eX23_giveChain_45 : decode cX23_giveChain 45 = .ok (.iload 4, 2) := by decide +kernel
theorem eX23_giveChain_47 : decode cX23_giveChain 47 = .ok (.bipush 52, 2) := by decide +kernel
theorem eX23_giveChain_49 : decode cX23_giveChain 49 = .ok (.if_icmp .ne 53, 3) := by decide +kernel
theorem eX23_giveChain_52 : decode cX23_giveChain 52 = .ok (.aload_n 2, 1) := by decide +kernel
theorem eX23_giveChain_53 : decode cX23_giveChain 53 = .ok (.iload_n 3, 1) := by decide +kernel
theorem eX23_giveChain_54 : decode cX23_giveChain 54 = .ok (.aload_n 0, 1) := by decide +kernel
theorem eX23_giveChain_55 : decode cX23_giveChain 55 = .ok (.iload 4, 2) := by decide +kernel
theorem eX23_giveChain_57 : decode cX23_giveChain 57 = .ok (.bipush 51, 2) := by decide +kernel
theorem eX23_giveChain_59 : decode cX23_giveChain 59 = .ok (.if_icmp .ne 8, 3) := by decide +kernel
theorem eX23_giveChain_62 : decode cX23_giveChain 62 = .ok (.bipush 18, 2) := by decide +kernel
theorem eX23_giveChain_64 : decode cX23_giveChain 64 = .ok (.goto 5, 3) := by decide +kernel
theorem eX23_giveChain_67 : decode cX23_giveChain 67 = .ok (.bipush 19, 2) := by decide +kernel
theorem eX23_giveChain_69 : decode cX23_giveChain 69 = .ok (.aload_n 1, 1) := by decide +kernel
theorem eX23_giveChain_70 : decode cX23_giveChain 70 = .ok (.getfield 339, 3) := by decide +kernel
theorem eX23_giveChain_73 : decode cX23_giveChain 73 = .ok (.iload_n 3, 1) := by decide +kernel
theorem eX23_giveChain_74 : decode cX23_giveChain 74 = .ok (.iaload, 1) := by decide +kernel
theorem eX23_giveChain_75 : decode cX23_giveChain 75 = .ok (.invokevirtual 708, 3) := by decide +kernel
theorem eX23_giveChain_78 : decode cX23_giveChain 78 = .ok (.iastore, 1) := by decide +kernel
theorem eX23_giveChain_79 : decode cX23_giveChain 79 = .ok (.aload_n 0, 1) := by decide +kernel
theorem eX23_giveChain_80 : decode cX23_giveChain 80 = .ok (.dup, 1) := by decide +kernel
theorem eX23_giveChain_81 : decode cX23_giveChain 81 = .ok (.getfield 698, 3) := by decide +kernel
theorem eX23_giveChain_84 : decode cX23_giveChain 84 = .ok (.iconst 1, 1) := by decide +kernel
theorem eX23_giveChain_85 : decode cX23_giveChain 85 = .ok (.isub, 1) := by decide +kernel
theorem eX23_giveChain_86 : decode cX23_giveChain 86 = .ok (.putfield 698, 3) := by decide +kernel
theorem eX23_giveChain_89 : decode cX23_giveChain 89 = .ok (.aload_n 0, 1) := by decide +kernel
theorem eX23_giveChain_90 : decode cX23_giveChain 90 = .ok (.aload_n 1, 1) := by decide +kernel
theorem eX23_giveChain_91 : decode cX23_giveChain 91 = .ok (.getfield 337, 3) := by decide +kernel
theorem eX23_giveChain_94 : decode cX23_giveChain 94 = .ok (.iload_n 3, 1) := by decide +kernel
theorem eX23_giveChain_95 : decode cX23_giveChain 95 = .ok (.aaload, 1) := by decide +kernel
theorem eX23_giveChain_96 : decode cX23_giveChain 96 = .ok (.invokevirtual 739, 3) := by decide +kernel
theorem eX23_giveChain_99 : decode cX23_giveChain 99 = .ok (.goto 41, 3) := by decide +kernel
theorem eX23_giveChain_102 : decode cX23_giveChain 102 = .ok (.aload_n 0, 1) := by decide +kernel
theorem eX23_giveChain_103 : decode cX23_giveChain 103 = .ok (.aload_n 1, 1) := by decide +kernel
theorem eX23_giveChain_104 : decode cX23_giveChain 104 = .ok (.getfield 337, 3) := by decide +kernel
theorem eX23_giveChain_107 : decode cX23_giveChain 107 = .ok (.iload_n 3, 1) := by decide +kernel
theorem eX23_giveChain_108 : decode cX23_giveChain 108 = .ok (.aaload, 1) := by decide +kernel
theorem eX23_giveChain_109 : decode cX23_giveChain 109 = .ok (.invokevirtual 739, 3) := by decide +kernel
theorem eX23_giveChain_112 : decode cX23_giveChain 112 = .ok (.aload_n 0, 1) := by decide +kernel
theorem eX23_giveChain_113 : decode cX23_giveChain 113 = .ok (.getfield 629, 3) := by decide +kernel
theorem eX23_giveChain_116 : decode cX23_giveChain 116 = .ok (.aload_n 0, 1) := by decide +kernel
theorem eX23_giveChain_117 : decode cX23_giveChain 117 = .ok (.iconst 4, 1) := by decide +kernel
theorem eX23_giveChain_118 : decode cX23_giveChain 118 = .ok (.aload_n 1, 1) := by decide +kernel
theorem eX23_giveChain_119 : decode cX23_giveChain 119 = .ok (.getfield 339, 3) := by decide +kernel
theorem eX23_giveChain_122 : decode cX23_giveChain 122 = .ok (.iload_n 3, 1) := by decide +kernel
theorem eX23_giveChain_123 : decode cX23_giveChain 123 = .ok (.iaload, 1) := by decide +kernel
theorem eX23_giveChain_124 : decode cX23_giveChain 124 = .ok (.invokevirtual 708, 3) := by decide +kernel
theorem eX23_giveChain_127 : decode cX23_giveChain 127 = .ok (.iload 4, 2) := by decide +kernel
theorem eX23_giveChain_129 : decode cX23_giveChain 129 = .ok (.iastore, 1) := by decide +kernel
theorem eX23_giveChain_130 : decode cX23_giveChain 130 = .ok (.aload_n 0, 1) := by decide +kernel
theorem eX23_giveChain_131 : decode cX23_giveChain 131 = .ok (.dup, 1) := by decide +kernel
theorem eX23_giveChain_132 : decode cX23_giveChain 132 = .ok (.getfield 698, 3) := by decide +kernel
theorem eX23_giveChain_135 : decode cX23_giveChain 135 = .ok (.iconst 1, 1) := by decide +kernel
theorem eX23_giveChain_136 : decode cX23_giveChain 136 = .ok (.isub, 1) := by decide +kernel
theorem eX23_giveChain_137 : decode cX23_giveChain 137 = .ok (.putfield 698, 3) := by decide +kernel
theorem eX23_giveChain_140 : decode cX23_giveChain 140 = .ok (.iinc 3 1, 3) := by decide +kernel
theorem eX23_giveChain_143 : decode cX23_giveChain 143 = .ok (.goto (-126), 3) := by decide +kernel
theorem eX23_giveChain_146 : decode cX23_giveChain 146 = .ok (.iconst 0, 1) := by decide +kernel
theorem eX23_giveChain_147 : decode cX23_giveChain 147 = .ok (.istore_n 3, 1) := by decide +kernel
theorem eX23_giveChain_148 : decode cX23_giveChain 148 = .ok (.iload_n 3, 1) := by decide +kernel
theorem eX23_giveChain_149 : decode cX23_giveChain 149 = .ok (.aload_n 1, 1) := by decide +kernel
theorem eX23_giveChain_150 : decode cX23_giveChain 150 = .ok (.getfield 342, 3) := by decide +kernel
theorem eX23_giveChain_153 : decode cX23_giveChain 153 = .ok (.if_icmp .ge 69, 3) := by decide +kernel
theorem eX23_giveChain_156 : decode cX23_giveChain 156 = .ok (.aload_n 0, 1) := by decide +kernel
theorem eX23_giveChain_157 : decode cX23_giveChain 157 = .ok (.getfield 625, 3) := by decide +kernel
theorem eX23_giveChain_160 : decode cX23_giveChain 160 = .ok (.aload_n 2, 1) := by decide +kernel
theorem eX23_giveChain_161 : decode cX23_giveChain 161 = .ok (.iload_n 3, 1) := by decide +kernel
theorem eX23_giveChain_162 : decode cX23_giveChain 162 = .ok (.iaload, 1) := by decide +kernel
theorem eX23_giveChain_163 : decode cX23_giveChain 163 = .ok (.iaload, 1) := by decide +kernel
theorem eX23_giveChain_164 : decode cX23_giveChain 164 = .ok (.bipush 18, 2) := by decide +kernel
theorem eX23_giveChain_166 : decode cX23_giveChain 166 = .ok (.if_icmp .eq 16, 3) := by decide +kernel
theorem eX23_giveChain_169 : decode cX23_giveChain 169 = .ok (.aload_n 0, 1) := by decide +kernel
theorem eX23_giveChain_170 : decode cX23_giveChain 170 = .ok (.getfield 625, 3) := by decide +kernel
theorem eX23_giveChain_173 : decode cX23_giveChain 173 = .ok (.aload_n 2, 1) := by decide +kernel
theorem eX23_giveChain_174 : decode cX23_giveChain 174 = .ok (.iload_n 3, 1) := by decide +kernel
theorem eX23_giveChain_175 : decode cX23_giveChain 175 = .ok (.iaload, 1) := by decide +kernel
theorem eX23_giveChain_176 : decode cX23_giveChain 176 = .ok (.iaload, 1) := by decide +kernel
theorem eX23_giveChain_177 : decode cX23_giveChain 177 = .ok (.bipush 19, 2) := by decide +kernel
theorem eX23_giveChain_179 : decode cX23_giveChain 179 = .ok (.if_icmp .ne 37, 3) := by decide +kernel
theorem eX23_giveChain_182 : decode cX23_giveChain 182 = .ok (.aload_n 0, 1) := by decide +kernel
theorem eX23_giveChain_183 : decode cX23_giveChain 183 = .ok (.getfield 635, 3) := by decide +kernel
theorem eX23_giveChain_186 : decode cX23_giveChain 186 = .ok (.aload_n 2, 1) := by decide +kernel
theorem eX23_giveChain_187 : decode cX23_giveChain 187 = .ok (.iload_n 3, 1) := by decide +kernel
theorem eX23_giveChain_188 : decode cX23_giveChain 188 = .ok (.iaload, 1) := by decide +kernel
theorem eX23_giveChain_189 : decode cX23_giveChain 189 = .ok (.aload_n 0, 1) := by decide +kernel
theorem eX23_giveChain_190 : decode cX23_giveChain 190 = .ok (.getfield 635, 3) := by decide +kernel
theorem eX23_giveChain_193 : decode cX23_giveChain 193 = .ok (.aload_n 2, 1) := by decide +kernel
theorem eX23_giveChain_194 : decode cX23_giveChain 194 = .ok (.iload_n 3, 1) := by decide +kernel
theorem eX23_giveChain_195 : decode cX23_giveChain 195 = .ok (.iaload, 1) := by decide +kernel
theorem eX23_giveChain_196 : decode cX23_giveChain 196 = .ok (.iaload, 1) := by decide +kernel
theorem eX23_giveChain_197 : decode cX23_giveChain 197 = .ok (.ifCond .ge 10, 3) := by decide +kernel
theorem eX23_giveChain_200 : decode cX23_giveChain 200 = .ok (.aload_n 0, 1) := by decide +kernel
theorem eX23_giveChain_201 : decode cX23_giveChain 201 = .ok (.getfield 622, 3) := by decide +kernel
theorem eX23_giveChain_204 : decode cX23_giveChain 204 = .ok (.goto 11, 3) := by decide +kernel
theorem eX23_giveChain_207 : decode cX23_giveChain 207 = .ok (.aload_n 0, 1) := by decide +kernel
theorem eX23_giveChain_208 : decode cX23_giveChain 208 = .ok (.getfield 635, 3) := by decide +kernel
theorem eX23_giveChain_211 : decode cX23_giveChain 211 = .ok (.aload_n 2, 1) := by decide +kernel
theorem eX23_giveChain_212 : decode cX23_giveChain 212 = .ok (.iload_n 3, 1) := by decide +kernel
theorem eX23_giveChain_213 : decode cX23_giveChain 213 = .ok (.iaload, 1) := by decide +kernel
theorem eX23_giveChain_214 : decode cX23_giveChain 214 = .ok (.iaload, 1) := by decide +kernel
theorem eX23_giveChain_215 : decode cX23_giveChain 215 = .ok (.iastore, 1) := by decide +kernel
theorem eX23_giveChain_216 : decode cX23_giveChain 216 = .ok (.iinc 3 1, 3) := by decide +kernel
theorem eX23_giveChain_219 : decode cX23_giveChain 219 = .ok (.goto (-71), 3) := by decide +kernel
theorem eX23_giveChain_222 : decode cX23_giveChain 222 = .ok (.return_, 1) := by decide +kernel
theorem eX23_give_0 : decode cX23_give 0 = .ok (.aload_n 1, 1) := by decide +kernel
theorem eX23_give_1 : decode cX23_give 1 = .ok (.invokestatic 288, 3) := by decide +kernel
theorem eX23_give_4 : decode cX23_give 4 = .ok (.ifCond .eq 9, 3) := by decide +kernel
theorem eX23_give_7 : decode cX23_give 7 = .ok (.aload_n 0, 1) := by decide +kernel
theorem eX23_give_8 : decode cX23_give 8 = .ok (.aload_n 1, 1) := by decide +kernel
theorem eX23_give_9 : decode cX23_give 9 = .ok (.invokevirtual 736, 3) := by decide +kernel
theorem eX23_give_12 : decode cX23_give 12 = .ok (.return_, 1) := by decide +kernel
theorem eX23_give_13 : decode cX23_give 13 = .ok (.aload_n 1, 1) := by decide +kernel
theorem eX23_give_14 : decode cX23_give 14 = .ok (.getfield 330, 3) := by decide +kernel
theorem eX23_give_17 : decode cX23_give 17 = .ok (.tableswitch 229 0 15 #[79, 79, 229, 229, 134, 229, 229, 134, 221, 145, 145, 229, 180, 188, 229, 110], 79) := by decide +kernel
theorem eX23_give_96 : decode cX23_give 96 = .ok (.aload_n 0, 1) := by decide +kernel
theorem eX23_give_97 : decode cX23_give 97 = .ok (.getfield 638, 3) := by decide +kernel
theorem eX23_give_100 : decode cX23_give 100 = .ok (.aload_n 0, 1) := by decide +kernel
theorem eX23_give_101 : decode cX23_give 101 = .ok (.iconst 1, 1) := by decide +kernel
theorem eX23_give_102 : decode cX23_give 102 = .ok (.aload_n 1, 1) := by decide +kernel
theorem eX23_give_103 : decode cX23_give 103 = .ok (.getfield 350, 3) := by decide +kernel
theorem eX23_give_106 : decode cX23_give 106 = .ok (.invokevirtual 708, 3) := by decide +kernel
theorem eX23_give_109 : decode cX23_give 109 = .ok (.aload_n 1, 1) := by decide +kernel
theorem eX23_give_110 : decode cX23_give 110 = .ok (.getfield 363, 3) := by decide +kernel
theorem eX23_give_113 : decode cX23_give 113 = .ok (.lastore, 1) := by decide +kernel
theorem eX23_give_114 : decode cX23_give 114 = .ok (.aload_n 0, 1) := by decide +kernel
theorem eX23_give_115 : decode cX23_give 115 = .ok (.dup, 1) := by decide +kernel
theorem eX23_give_116 : decode cX23_give 116 = .ok (.getfield 698, 3) := by decide +kernel
theorem eX23_give_119 : decode cX23_give 119 = .ok (.iconst 1, 1) := by decide +kernel
theorem eX23_give_120 : decode cX23_give 120 = .ok (.iadd, 1) := by decide +kernel
theorem eX23_give_121 : decode cX23_give 121 = .ok (.putfield 698, 3) := by decide +kernel
theorem eX23_give_124 : decode cX23_give 124 = .ok (.goto 127, 3) := by decide +kernel
theorem eX23_give_127 : decode cX23_give 127 = .ok (.aload_n 0, 1) := by decide +kernel
theorem eX23_give_128 : decode cX23_give 128 = .ok (.bipush 27, 2) := by decide +kernel
theorem eX23_give_130 : decode cX23_give 130 = .ok (.aload_n 1, 1) := by decide +kernel
theorem eX23_give_131 : decode cX23_give 131 = .ok (.getfield 350, 3) := by decide +kernel
theorem eX23_give_134 : decode cX23_give 134 = .ok (.invokevirtual 708, 3) := by decide +kernel
theorem eX23_give_137 : decode cX23_give 137 = .ok (.pop, 1) := by decide +kernel
theorem eX23_give_138 : decode cX23_give 138 = .ok (.aload_n 0, 1) := by decide +kernel
theorem eX23_give_139 : decode cX23_give 139 = .ok (.dup, 1) := by decide +kernel
theorem eX23_give_140 : decode cX23_give 140 = .ok (.getfield 698, 3) := by decide +kernel
theorem eX23_give_143 : decode cX23_give 143 = .ok (.iconst 1, 1) := by decide +kernel
theorem eX23_give_144 : decode cX23_give 144 = .ok (.iadd, 1) := by decide +kernel
theorem eX23_give_145 : decode cX23_give 145 = .ok (.putfield 698, 3) := by decide +kernel
theorem eX23_give_148 : decode cX23_give 148 = .ok (.goto 103, 3) := by decide +kernel
theorem eX23_give_151 : decode cX23_give 151 = .ok (.aload_n 0, 1) := by decide +kernel
theorem eX23_give_152 : decode cX23_give 152 = .ok (.aload_n 1, 1) := by decide +kernel
theorem eX23_give_153 : decode cX23_give 153 = .ok (.getfield 331, 3) := by decide +kernel
theorem eX23_give_156 : decode cX23_give 156 = .ok (.invokevirtual 739, 3) := by decide +kernel
theorem eX23_give_159 : decode cX23_give 159 = .ok (.goto 92, 3) := by decide +kernel
theorem eX23_give_162 : decode cX23_give 162 = .ok (.aload_n 0, 1) := by decide +kernel
theorem eX23_give_163 : decode cX23_give 163 = .ok (.aload_n 1, 1) := by decide +kernel
theorem eX23_give_164 : decode cX23_give 164 = .ok (.getfield 331, 3) := by decide +kernel
theorem eX23_give_167 : decode cX23_give 167 = .ok (.invokevirtual 739, 3) := by decide +kernel
theorem eX23_give_170 : decode cX23_give 170 = .ok (.aload_n 0, 1) := by decide +kernel
theorem eX23_give_171 : decode cX23_give 171 = .ok (.aload_n 1, 1) := by decide +kernel
theorem eX23_give_172 : decode cX23_give 172 = .ok (.getfield 330, 3) := by decide +kernel
theorem eX23_give_175 : decode cX23_give 175 = .ok (.bipush 9, 2) := by decide +kernel
theorem eX23_give_177 : decode cX23_give 177 = .ok (.if_icmp .ne 7, 3) := by decide +kernel
theorem eX23_give_180 : decode cX23_give 180 = .ok (.iconst 5, 1) := by decide +kernel
theorem eX23_give_181 : decode cX23_give 181 = .ok (.goto 5, 3) := by decide +kernel
theorem eX23_give_184 : decode cX23_give 184 = .ok (.bipush 6, 2) := by decide +kernel
theorem eX23_give_186 : decode cX23_give 186 = .ok (.aload_n 1, 1) := by decide +kernel
theorem eX23_give_187 : decode cX23_give 187 = .ok (.getfield 350, 3) := by decide +kernel
theorem eX23_give_190 : decode cX23_give 190 = .ok (.invokevirtual 708, 3) := by decide +kernel
theorem eX23_give_193 : decode cX23_give 193 = .ok (.pop, 1) := by decide +kernel
theorem eX23_give_194 : decode cX23_give 194 = .ok (.goto 57, 3) := by decide +kernel
theorem eX23_give_197 : decode cX23_give 197 = .ok (.aload_n 0, 1) := by decide +kernel
theorem eX23_give_198 : decode cX23_give 198 = .ok (.aload_n 1, 1) := by decide +kernel
theorem eX23_give_199 : decode cX23_give 199 = .ok (.invokevirtual 742, 3) := by decide +kernel
theorem eX23_give_202 : decode cX23_give 202 = .ok (.goto 49, 3) := by decide +kernel
theorem eX23_give_205 : decode cX23_give 205 = .ok (.aload_n 0, 1) := by decide +kernel
theorem eX23_give_206 : decode cX23_give 206 = .ok (.aload_n 1, 1) := by decide +kernel
theorem eX23_give_207 : decode cX23_give 207 = .ok (.getfield 331, 3) := by decide +kernel
theorem eX23_give_210 : decode cX23_give 210 = .ok (.invokevirtual 739, 3) := by decide +kernel
theorem eX23_give_213 : decode cX23_give 213 = .ok (.aload_n 0, 1) := by decide +kernel
theorem eX23_give_214 : decode cX23_give 214 = .ok (.getfield 660, 3) := by decide +kernel
theorem eX23_give_217 : decode cX23_give 217 = .ok (.aload_n 0, 1) := by decide +kernel
theorem eX23_give_218 : decode cX23_give 218 = .ok (.bipush 7, 2) := by decide +kernel
theorem eX23_give_220 : decode cX23_give 220 = .ok (.aload_n 1, 1) := by decide +kernel
theorem eX23_give_221 : decode cX23_give 221 = .ok (.getfield 350, 3) := by decide +kernel
theorem eX23_give_224 : decode cX23_give 224 = .ok (.invokevirtual 708, 3) := by decide +kernel
theorem eX23_give_227 : decode cX23_give 227 = .ok (.aload_n 1, 1) := by decide +kernel
theorem eX23_give_228 : decode cX23_give 228 = .ok (.getfield 331, 3) := by decide +kernel
theorem eX23_give_231 : decode cX23_give 231 = .ok (.getfield 484, 3) := by decide +kernel
theorem eX23_give_234 : decode cX23_give 234 = .ok (.aastore, 1) := by decide +kernel
theorem eX23_give_235 : decode cX23_give 235 = .ok (.goto 16, 3) := by decide +kernel
theorem eX23_give_238 : decode cX23_give 238 = .ok (.aload_n 0, 1) := by decide +kernel
theorem eX23_give_239 : decode cX23_give 239 = .ok (.aload_n 1, 1) := by decide +kernel
theorem eX23_give_240 : decode cX23_give 240 = .ok (.invokevirtual 745, 3) := by decide +kernel
theorem eX23_give_243 : decode cX23_give 243 = .ok (.goto 8, 3) := by decide +kernel
theorem eX23_give_246 : decode cX23_give 246 = .ok (.aload_n 0, 1) := by decide +kernel
theorem eX23_give_247 : decode cX23_give 247 = .ok (.aload_n 1, 1) := by decide +kernel
theorem eX23_give_248 : decode cX23_give 248 = .ok (.invokevirtual 748, 3) := by decide +kernel
theorem eX23_give_251 : decode cX23_give 251 = .ok (.return_, 1) := by decide +kernel
theorem eX23_comesAlive_0 : decode cX23_comesAlive 0 = .ok (.aload_n 0, 1) := by decide +kernel
theorem eX23_comesAlive_1 : decode cX23_comesAlive 1 = .ok (.getfield 763, 3) := by decide +kernel
theorem eX23_comesAlive_4 : decode cX23_comesAlive 4 = .ok (.aload_n 0, 1) := by decide +kernel
theorem eX23_comesAlive_5 : decode cX23_comesAlive 5 = .ok (.getfield 766, 3) := by decide +kernel
theorem eX23_comesAlive_8 : decode cX23_comesAlive 8 = .ok (.aload_n 1, 1) := by decide +kernel
theorem eX23_comesAlive_9 : decode cX23_comesAlive 9 = .ok (.aastore, 1) := by decide +kernel
theorem eX23_comesAlive_10 : decode cX23_comesAlive 10 = .ok (.aload_n 0, 1) := by decide +kernel
theorem eX23_comesAlive_11 : decode cX23_comesAlive 11 = .ok (.dup, 1) := by decide +kernel
theorem eX23_comesAlive_12 : decode cX23_comesAlive 12 = .ok (.getfield 766, 3) := by decide +kernel
theorem eX23_comesAlive_15 : decode cX23_comesAlive 15 = .ok (.iconst 1, 1) := by decide +kernel
theorem eX23_comesAlive_16 : decode cX23_comesAlive 16 = .ok (.iadd, 1) := by decide +kernel
theorem eX23_comesAlive_17 : decode cX23_comesAlive 17 = .ok (.putfield 766, 3) := by decide +kernel
theorem eX23_comesAlive_20 : decode cX23_comesAlive 20 = .ok (.return_, 1) := by decide +kernel
theorem eX23_goOut_0 : decode cX23_goOut 0 = .ok (.aload_n 0, 1) := by decide +kernel
theorem eX23_goOut_1 : decode cX23_goOut 1 = .ok (.getfield 766, 3) := by decide +kernel
theorem eX23_goOut_4 : decode cX23_goOut 4 = .ok (.iconst 1, 1) := by decide +kernel
theorem eX23_goOut_5 : decode cX23_goOut 5 = .ok (.isub, 1) := by decide +kernel
theorem eX23_goOut_6 : decode cX23_goOut 6 = .ok (.istore_n 3, 1) := by decide +kernel
theorem eX23_goOut_7 : decode cX23_goOut 7 = .ok (.iload_n 3, 1) := by decide +kernel
theorem eX23_goOut_8 : decode cX23_goOut 8 = .ok (.iload_n 1, 1) := by decide +kernel
theorem eX23_goOut_9 : decode cX23_goOut 9 = .ok (.if_icmp .lt 72, 3) := by decide +kernel
theorem eX23_goOut_12 : decode cX23_goOut 12 = .ok (.aload_n 0, 1) := by decide +kernel
theorem eX23_goOut_13 : decode cX23_goOut 13 = .ok (.bipush 24, 2) := by decide +kernel
theorem eX23_goOut_15 : decode cX23_goOut 15 = .ok (.iload_n 2, 1) := by decide +kernel
theorem eX23_goOut_16 : decode cX23_goOut 16 = .ok (.invokevirtual 708, 3) := by decide +kernel
theorem eX23_goOut_19 : decode cX23_goOut 19 = .ok (.istore 4, 2) := by decide +kernel
theorem eX23_goOut_21 : decode cX23_goOut 21 = .ok (.aload_n 0, 1) := by decide +kernel
theorem eX23_goOut_22 : decode cX23_goOut 22 = .ok (.getfield 663, 3) := by decide +kernel
theorem eX23_goOut_25 : decode cX23_goOut 25 = .ok (.iload 4, 2) := by decide +kernel
theorem eX23_goOut_27 : decode cX23_goOut 27 = .ok (.aload_n 0, 1) := by decide +kernel
theorem eX23_goOut_28 : decode cX23_goOut 28 = .ok (.getfield 763, 3) := by decide +kernel
theorem eX23_goOut_31 : decode cX23_goOut 31 = .ok (.iload_n 3, 1) := by decide +kernel
theorem eX23_goOut_32 : decode cX23_goOut 32 = .ok (.aaload, 1) := by decide +kernel
theorem eX23_goOut_33 : decode cX23_goOut 33 = .ok (.aastore, 1) := by decide +kernel
theorem eX23_goOut_34 : decode cX23_goOut 34 = .ok (.aload_n 0, 1) := by decide +kernel
theorem eX23_goOut_35 : decode cX23_goOut 35 = .ok (.getfield 640, 3) := by decide +kernel
theorem eX23_goOut_38 : decode cX23_goOut 38 = .ok (.iload 4, 2) := by decide +kernel
theorem eX23_goOut_40 : decode cX23_goOut 40 = .ok (.bipush 7, 2) := by decide +kernel
theorem eX23_goOut_42 : decode cX23_goOut 42 = .ok (.iastore, 1) := by decide +kernel
theorem eX23_goOut_43 : decode cX23_goOut 43 = .ok (.aload_n 0, 1) := by decide +kernel
theorem eX23_goOut_44 : decode cX23_goOut 44 = .ok (.getfield 643, 3) := by decide +kernel
theorem eX23_goOut_47 : decode cX23_goOut 47 = .ok (.iload 4, 2) := by decide +kernel
theorem eX23_goOut_49 : decode cX23_goOut 49 = .ok (.aload_n 0, 1) := by decide +kernel
theorem eX23_goOut_50 : decode cX23_goOut 50 = .ok (.getfield 763, 3) := by decide +kernel
theorem eX23_goOut_53 : decode cX23_goOut 53 = .ok (.iload_n 3, 1) := by decide +kernel
theorem eX23_goOut_54 : decode cX23_goOut 54 = .ok (.aaload, 1) := by decide +kernel
theorem eX23_goOut_55 : decode cX23_goOut 55 = .ok (.getfield 469, 3) := by decide +kernel
theorem eX23_goOut_58 : decode cX23_goOut 58 = .ok (.iastore, 1) := by decide +kernel
theorem eX23_goOut_59 : decode cX23_goOut 59 = .ok (.aload_n 0, 1) := by decide +kernel
theorem eX23_goOut_60 : decode cX23_goOut 60 = .ok (.getfield 656, 3) := by decide +kernel
theorem eX23_goOut_63 : decode cX23_goOut 63 = .ok (.iload 4, 2) := by decide +kernel
theorem eX23_goOut_65 : decode cX23_goOut 65 = .ok (.aload_n 0, 1) := by decide +kernel
theorem eX23_goOut_66 : decode cX23_goOut 66 = .ok (.getfield 763, 3) := by decide +kernel
theorem eX23_goOut_69 : decode cX23_goOut 69 = .ok (.iload_n 3, 1) := by decide +kernel
theorem eX23_goOut_70 : decode cX23_goOut 70 = .ok (.aaload, 1) := by decide +kernel
theorem eX23_goOut_71 : decode cX23_goOut 71 = .ok (.invokestatic 684, 3) := by decide +kernel
theorem eX23_goOut_74 : decode cX23_goOut 74 = .ok (.aastore, 1) := by decide +kernel
theorem eX23_goOut_75 : decode cX23_goOut 75 = .ok (.iinc 3 (-1), 3) := by decide +kernel
theorem eX23_goOut_78 : decode cX23_goOut 78 = .ok (.goto (-71), 3) := by decide +kernel
theorem eX23_goOut_81 : decode cX23_goOut 81 = .ok (.return_, 1) := by decide +kernel
theorem eX23_uses_0 : decode cX23_uses 0 = .ok (.aload_n 0, 1) := by decide +kernel
theorem eX23_uses_1 : decode cX23_uses 1 = .ok (.dup, 1) := by decide +kernel
theorem eX23_uses_2 : decode cX23_uses 2 = .ok (.getfield 698, 3) := by decide +kernel
theorem eX23_uses_5 : decode cX23_uses 5 = .ok (.iconst 1, 1) := by decide +kernel
theorem eX23_uses_6 : decode cX23_uses 6 = .ok (.isub, 1) := by decide +kernel
theorem eX23_uses_7 : decode cX23_uses 7 = .ok (.putfield 698, 3) := by decide +kernel
theorem eX23_uses_10 : decode cX23_uses 10 = .ok (.aload_n 2, 1) := by decide +kernel
theorem eX23_uses_11 : decode cX23_uses 11 = .ok (.invokestatic 503, 3) := by decide +kernel
theorem eX23_uses_14 : decode cX23_uses 14 = .ok (.ifCond .ne 4, 3) := by decide +kernel
theorem eX23_uses_17 : decode cX23_uses 17 = .ok (.return_, 1) := by decide +kernel
theorem eX23_uses_18 : decode cX23_uses 18 = .ok (.aload_n 0, 1) := by decide +kernel
theorem eX23_uses_19 : decode cX23_uses 19 = .ok (.getfield 653, 3) := by decide +kernel
theorem eX23_uses_22 : decode cX23_uses 22 = .ok (.iload_n 1, 1) := by decide +kernel
theorem eX23_uses_23 : decode cX23_uses 23 = .ok (.aload_n 0, 1) := by decide +kernel
theorem eX23_uses_24 : decode cX23_uses 24 = .ok (.aload_n 0, 1) := by decide +kernel
theorem eX23_uses_25 : decode cX23_uses 25 = .ok (.getfield 698, 3) := by decide +kernel
theorem eX23_uses_28 : decode cX23_uses 28 = .ok (.invokestatic 701, 3) := by decide +kernel
theorem eX23_uses_31 : decode cX23_uses 31 = .ok (.invokevirtual 694, 3) := by decide +kernel
theorem eX23_uses_34 : decode cX23_uses 34 = .ok (.aastore, 1) := by decide +kernel
theorem eX23_uses_35 : decode cX23_uses 35 = .ok (.aload_n 0, 1) := by decide +kernel
theorem eX23_uses_36 : decode cX23_uses 36 = .ok (.getfield 649, 3) := by decide +kernel
theorem eX23_uses_39 : decode cX23_uses 39 = .ok (.iload_n 1, 1) := by decide +kernel
theorem eX23_uses_40 : decode cX23_uses 40 = .ok (.aload_n 0, 1) := by decide +kernel
theorem eX23_uses_41 : decode cX23_uses 41 = .ok (.aload_n 0, 1) := by decide +kernel
theorem eX23_uses_42 : decode cX23_uses 42 = .ok (.getfield 698, 3) := by decide +kernel
theorem eX23_uses_45 : decode cX23_uses 45 = .ok (.invokestatic 701, 3) := by decide +kernel
theorem eX23_uses_48 : decode cX23_uses 48 = .ok (.invokevirtual 694, 3) := by decide +kernel
theorem eX23_uses_51 : decode cX23_uses 51 = .ok (.aastore, 1) := by decide +kernel
theorem eX23_uses_52 : decode cX23_uses 52 = .ok (.return_, 1) := by decide +kernel
theorem eX23_layAssign_0 : decode cX23_layAssign 0 = .ok (.aload_n 0, 1) := by decide +kernel
theorem eX23_layAssign_1 : decode cX23_layAssign 1 = .ok (.aload_n 1, 1) := by decide +kernel
theorem eX23_layAssign_2 : decode cX23_layAssign 2 = .ok (.getfield 268, 3) := by decide +kernel
theorem eX23_layAssign_5 : decode cX23_layAssign 5 = .ok (.invokevirtual 739, 3) := by decide +kernel
theorem eX23_layAssign_8 : decode cX23_layAssign 8 = .ok (.aload_n 0, 1) := by decide +kernel
theorem eX23_layAssign_9 : decode cX23_layAssign 9 = .ok (.aload_n 1, 1) := by decide +kernel
theorem eX23_layAssign_10 : decode cX23_layAssign 10 = .ok (.getfield 292, 3) := by decide +kernel
theorem eX23_layAssign_13 : decode cX23_layAssign 13 = .ok (.invokevirtual 704, 3) := by decide +kernel
theorem eX23_layAssign_16 : decode cX23_layAssign 16 = .ok (.astore_n 2, 1) := by decide +kernel
theorem eX23_layAssign_17 : decode cX23_layAssign 17 = .ok (.aload_n 0, 1) := by decide +kernel
theorem eX23_layAssign_18 : decode cX23_layAssign 18 = .ok (.bipush 14, 2) := by decide +kernel
theorem eX23_layAssign_20 : decode cX23_layAssign 20 = .ok (.aload_n 1, 1) := by decide +kernel
theorem eX23_layAssign_21 : decode cX23_layAssign 21 = .ok (.getfield 292, 3) := by decide +kernel
theorem eX23_layAssign_24 : decode cX23_layAssign 24 = .ok (.getfield 350, 3) := by decide +kernel
theorem eX23_layAssign_27 : decode cX23_layAssign 27 = .ok (.invokevirtual 708, 3) := by decide +kernel
theorem eX23_layAssign_30 : decode cX23_layAssign 30 = .ok (.istore_n 3, 1) := by decide +kernel
theorem eX23_layAssign_31 : decode cX23_layAssign 31 = .ok (.aload_n 0, 1) := by decide +kernel
theorem eX23_layAssign_32 : decode cX23_layAssign 32 = .ok (.getfield 640, 3) := by decide +kernel
theorem eX23_layAssign_35 : decode cX23_layAssign 35 = .ok (.iload_n 3, 1) := by decide +kernel
theorem eX23_layAssign_36 : decode cX23_layAssign 36 = .ok (.bipush 6, 2) := by decide +kernel
theorem eX23_layAssign_38 : decode cX23_layAssign 38 = .ok (.iastore, 1) := by decide +kernel
theorem eX23_layAssign_39 : decode cX23_layAssign 39 = .ok (.aload_n 0, 1) := by decide +kernel
theorem eX23_layAssign_40 : decode cX23_layAssign 40 = .ok (.getfield 656, 3) := by decide +kernel
theorem eX23_layAssign_43 : decode cX23_layAssign 43 = .ok (.iload_n 3, 1) := by decide +kernel
theorem eX23_layAssign_44 : decode cX23_layAssign 44 = .ok (.aload_n 2, 1) := by decide +kernel
theorem eX23_layAssign_45 : decode cX23_layAssign 45 = .ok (.aastore, 1) := by decide +kernel
theorem eX23_layAssign_46 : decode cX23_layAssign 46 = .ok (.aload_n 0, 1) := by decide +kernel
theorem eX23_layAssign_47 : decode cX23_layAssign 47 = .ok (.getfield 660, 3) := by decide +kernel
theorem eX23_layAssign_50 : decode cX23_layAssign 50 = .ok (.iload_n 3, 1) := by decide +kernel
theorem eX23_layAssign_51 : decode cX23_layAssign 51 = .ok (.aload_n 2, 1) := by decide +kernel
theorem eX23_layAssign_52 : decode cX23_layAssign 52 = .ok (.invokevirtual 691, 3) := by decide +kernel
theorem eX23_layAssign_55 : decode cX23_layAssign 55 = .ok (.aastore, 1) := by decide +kernel
theorem eX23_layAssign_56 : decode cX23_layAssign 56 = .ok (.aload_n 0, 1) := by decide +kernel
theorem eX23_layAssign_57 : decode cX23_layAssign 57 = .ok (.iload_n 3, 1) := by decide +kernel
theorem eX23_layAssign_58 : decode cX23_layAssign 58 = .ok (.aload_n 1, 1) := by decide +kernel
theorem eX23_layAssign_59 : decode cX23_layAssign 59 = .ok (.getfield 268, 3) := by decide +kernel
theorem eX23_layAssign_62 : decode cX23_layAssign 62 = .ok (.getfield 484, 3) := by decide +kernel
theorem eX23_layAssign_65 : decode cX23_layAssign 65 = .ok (.invokevirtual 796, 3) := by decide +kernel
theorem eX23_layAssign_68 : decode cX23_layAssign 68 = .ok (.aload_n 2, 1) := by decide +kernel
theorem eX23_layAssign_69 : decode cX23_layAssign 69 = .ok (.getfield 711, 3) := by decide +kernel
theorem eX23_layAssign_72 : decode cX23_layAssign 72 = .ok (.ifCond .ne 19, 3) := by decide +kernel
theorem eX23_layAssign_75 : decode cX23_layAssign 75 = .ok (.aload_n 0, 1) := by decide +kernel
theorem eX23_layAssign_76 : decode cX23_layAssign 76 = .ok (.getfield 643, 3) := by decide +kernel
theorem eX23_layAssign_79 : decode cX23_layAssign 79 = .ok (.iload_n 3, 1) := by decide +kernel
theorem eX23_layAssign_80 : decode cX23_layAssign 80 = .ok (.aload_n 2, 1) := by decide +kernel
theorem eX23_layAssign_81 : decode cX23_layAssign 81 = .ok (.getfield 682, 3) := by decide +kernel
theorem eX23_layAssign_84 : decode cX23_layAssign 84 = .ok (.getfield 469, 3) := by decide +kernel
theorem eX23_layAssign_87 : decode cX23_layAssign 87 = .ok (.iastore, 1) := by decide +kernel
theorem eX23_layAssign_88 : decode cX23_layAssign 88 = .ok (.goto 32, 3) := by decide +kernel
theorem eX23_layAssign_91 : decode cX23_layAssign 91 = .ok (.aload_n 2, 1) := by decide +kernel
theorem eX23_layAssign_92 : decode cX23_layAssign 92 = .ok (.getfield 683, 3) := by decide +kernel
theorem eX23_layAssign_95 : decode cX23_layAssign 95 = .ok (.iconst 0, 1) := by decide +kernel
theorem eX23_layAssign_96 : decode cX23_layAssign 96 = .ok (.aaload, 1) := by decide +kernel
theorem eX23_layAssign_97 : decode cX23_layAssign 97 = .ok (.invokestatic 503, 3) := by decide +kernel
theorem eX23_layAssign_100 : decode cX23_layAssign 100 = .ok (.ifCond .eq 20, 3) := by decide +kernel
theorem eX23_layAssign_103 : decode cX23_layAssign 103 = .ok (.aload_n 0, 1) := by decide +kernel
theorem eX23_layAssign_104 : decode cX23_layAssign 104 = .ok (.getfield 653, 3) := by decide +kernel
theorem eX23_layAssign_107 : decode cX23_layAssign 107 = .ok (.iload_n 3, 1) := by decide +kernel
theorem eX23_layAssign_108 : decode cX23_layAssign 108 = .ok (.aload_n 0, 1) := by decide +kernel
theorem eX23_layAssign_109 : decode cX23_layAssign 109 = .ok (.aload_n 2, 1) := by decide +kernel
theorem eX23_layAssign_110 : decode cX23_layAssign 110 = .ok (.getfield 682, 3) := by decide +kernel
theorem eX23_layAssign_113 : decode cX23_layAssign 113 = .ok (.getfield 469, 3) := by decide +kernel
theorem eX23_layAssign_116 : decode cX23_layAssign 116 = .ok (.invokevirtual 694, 3) := by decide +kernel
theorem eX23_layAssign_119 : decode cX23_layAssign 119 = .ok (.aastore, 1) := by decide +kernel
theorem eX23_layAssign_120 : decode cX23_layAssign 120 = .ok (.return_, 1) := by decide +kernel
theorem eX23_layLet_0 : decode cX23_layLet 0 = .ok (.aload_n 1, 1) := by decide +kernel
theorem eX23_layLet_1 : decode cX23_layLet 1 = .ok (.getfield 268, 3) := by decide +kernel
theorem eX23_layLet_4 : decode cX23_layLet 4 = .ok (.ifnull 11, 3) := by decide +kernel
theorem eX23_layLet_7 : decode cX23_layLet 7 = .ok (.aload_n 0, 1) := by decide +kernel
theorem eX23_layLet_8 : decode cX23_layLet 8 = .ok (.aload_n 1, 1) := by decide +kernel
theorem eX23_layLet_9 : decode cX23_layLet 9 = .ok (.getfield 268, 3) := by decide +kernel
theorem eX23_layLet_12 : decode cX23_layLet 12 = .ok (.invokevirtual 739, 3) := by decide +kernel
theorem eX23_layLet_15 : decode cX23_layLet 15 = .ok (.aload_n 0, 1) := by decide +kernel
theorem eX23_layLet_16 : decode cX23_layLet 16 = .ok (.aload_n 1, 1) := by decide +kernel
theorem eX23_layLet_17 : decode cX23_layLet 17 = .ok (.getfield 268, 3) := by decide +kernel
theorem eX23_layLet_20 : decode cX23_layLet 20 = .ok (.ifnull 8, 3) := by decide +kernel
theorem eX23_layLet_23 : decode cX23_layLet 23 = .ok (.bipush 12, 2) := by decide +kernel
theorem eX23_layLet_25 : decode cX23_layLet 25 = .ok (.goto 5, 3) := by decide +kernel
theorem eX23_layLet_28 : decode cX23_layLet 28 = .ok (.bipush 13, 2) := by decide +kernel
theorem eX23_layLet_30 : decode cX23_layLet 30 = .ok (.aload_n 1, 1) := by decide +kernel
theorem eX23_layLet_31 : decode cX23_layLet 31 = .ok (.getfield 285, 3) := by decide +kernel
theorem eX23_layLet_34 : decode cX23_layLet 34 = .ok (.invokevirtual 708, 3) := by decide +kernel
theorem eX23_layLet_37 : decode cX23_layLet 37 = .ok (.istore_n 2, 1) := by decide +kernel
theorem eX23_layLet_38 : decode cX23_layLet 38 = .ok (.aload_n 0, 1) := by decide +kernel
theorem eX23_layLet_39 : decode cX23_layLet 39 = .ok (.getfield 663, 3) := by decide +kernel
theorem eX23_layLet_42 : decode cX23_layLet 42 = .ok (.iload_n 2, 1) := by decide +kernel
theorem eX23_layLet_43 : decode cX23_layLet 43 = .ok (.aload_n 1, 1) := by decide +kernel
theorem eX23_layLet_44 : decode cX23_layLet 44 = .ok (.getfield 587, 3) := by decide +kernel
theorem eX23_layLet_47 : decode cX23_layLet 47 = .ok (.aastore, 1) := by decide +kernel
theorem eX23_layLet_48 : decode cX23_layLet 48 = .ok (.aload_n 0, 1) := by decide +kernel
theorem eX23_layLet_49 : decode cX23_layLet 49 = .ok (.getfield 643, 3) := by decide +kernel
theorem eX23_layLet_52 : decode cX23_layLet 52 = .ok (.iload_n 2, 1) := by decide +kernel
theorem eX23_layLet_53 : decode cX23_layLet 53 = .ok (.aload_n 1, 1) := by decide +kernel
theorem eX23_layLet_54 : decode cX23_layLet 54 = .ok (.getfield 587, 3) := by decide +kernel
theorem eX23_layLet_57 : decode cX23_layLet 57 = .ok (.getfield 469, 3) := by decide +kernel
theorem eX23_layLet_60 : decode cX23_layLet 60 = .ok (.iastore, 1) := by decide +kernel
theorem eX23_layLet_61 : decode cX23_layLet 61 = .ok (.aload_n 1, 1) := by decide +kernel
theorem eX23_layLet_62 : decode cX23_layLet 62 = .ok (.getfield 268, 3) := by decide +kernel
theorem eX23_layLet_65 : decode cX23_layLet 65 = .ok (.ifnull 15, 3) := by decide +kernel
theorem eX23_layLet_68 : decode cX23_layLet 68 = .ok (.aload_n 0, 1) := by decide +kernel
theorem eX23_layLet_69 : decode cX23_layLet 69 = .ok (.iload_n 2, 1) := by decide +kernel
theorem eX23_layLet_70 : decode cX23_layLet 70 = .ok (.aload_n 1, 1) := by decide +kernel
theorem eX23_layLet_71 : decode cX23_layLet 71 = .ok (.getfield 268, 3) := by decide +kernel
theorem eX23_layLet_74 : decode cX23_layLet 74 = .ok (.getfield 484, 3) := by decide +kernel
theorem eX23_layLet_77 : decode cX23_layLet 77 = .ok (.invokevirtual 796, 3) := by decide +kernel
theorem eX23_layLet_80 : decode cX23_layLet 80 = .ok (.aload_n 0, 1) := by decide +kernel
theorem eX23_layLet_81 : decode cX23_layLet 81 = .ok (.aload_n 1, 1) := by decide +kernel
theorem eX23_layLet_82 : decode cX23_layLet 82 = .ok (.getfield 587, 3) := by decide +kernel
theorem eX23_layLet_85 : decode cX23_layLet 85 = .ok (.invokevirtual 799, 3) := by decide +kernel
theorem eX23_layLet_88 : decode cX23_layLet 88 = .ok (.return_, 1) := by decide +kernel
theorem eX23_layPart_0 : decode cX23_layPart 0 = .ok (.new 678, 3) := by decide +kernel
theorem eX23_layPart_3 : decode cX23_layPart 3 = .ok (.dup, 1) := by decide +kernel
theorem eX23_layPart_4 : decode cX23_layPart 4 = .ok (.aload 4, 2) := by decide +kernel
theorem eX23_layPart_6 : decode cX23_layPart 6 = .ok (.getfield 711, 3) := by decide +kernel
theorem eX23_layPart_9 : decode cX23_layPart 9 = .ok (.iconst 1, 1) := by decide +kernel
theorem eX23_layPart_10 : decode cX23_layPart 10 = .ok (.iadd, 1) := by decide +kernel
theorem eX23_layPart_11 : decode cX23_layPart 11 = .ok (.invokespecial 680, 3) := by decide +kernel
theorem eX23_layPart_14 : decode cX23_layPart 14 = .ok (.astore 5, 2) := by decide +kernel
theorem eX23_layPart_16 : decode cX23_layPart 16 = .ok (.aload 5, 2) := by decide +kernel
theorem eX23_layPart_18 : decode cX23_layPart 18 = .ok (.aload 4, 2) := by decide +kernel
theorem eX23_layPart_20 : decode cX23_layPart 20 = .ok (.getfield 682, 3) := by decide +kernel
theorem eX23_layPart_23 : decode cX23_layPart 23 = .ok (.putfield 682, 3) := by decide +kernel
theorem eX23_layPart_26 : decode cX23_layPart 26 = .ok (.iconst 0, 1) := by decide +kernel
theorem eX23_layPart_27 : decode cX23_layPart 27 = .ok (.istore 6, 2) := by decide +kernel
theorem eX23_layPart_29 : decode cX23_layPart 29 = .ok (.iload 6, 2) := by decide +kernel
theorem eX23_layPart_31 : decode cX23_layPart 31 = .ok (.aload 4, 2) := by decide +kernel
theorem eX23_layPart_33 : decode cX23_layPart 33 = .ok (.getfield 711, 3) := by decide +kernel
theorem eX23_layPart_36 : decode cX23_layPart 36 = .ok (.if_icmp .ge 25, 3) := by decide +kernel
theorem eX23_layPart_39 : decode cX23_layPart 39 = .ok (.aload 5, 2) := by decide +kernel
theorem eX23_layPart_41 : decode cX23_layPart 41 = .ok (.getfield 688, 3) := by decide +kernel
theorem eX23_layPart_44 : decode cX23_layPart 44 = .ok (.iload 6, 2) := by decide +kernel
theorem eX23_layPart_46 : decode cX23_layPart 46 = .ok (.aload 4, 2) := by decide +kernel
theorem eX23_layPart_48 : decode cX23_layPart 48 = .ok (.getfield 688, 3) := by decide +kernel
theorem eX23_layPart_51 : decode cX23_layPart 51 = .ok (.iload 6, 2) := by decide +kernel
theorem eX23_layPart_53 : decode cX23_layPart 53 = .ok (.iaload, 1) := by decide +kernel
theorem eX23_layPart_54 : decode cX23_layPart 54 = .ok (.iastore, 1) := by decide +kernel
theorem eX23_layPart_55 : decode cX23_layPart 55 = .ok (.iinc 6 1, 3) := by decide +kernel
theorem eX23_layPart_58 : decode cX23_layPart 58 = .ok (.goto (-29), 3) := by decide +kernel
theorem eX23_layPart_61 : decode cX23_layPart 61 = .ok (.iconst 0, 1) := by decide +kernel
theorem eX23_layPart_62 : decode cX23_layPart 62 = .ok (.istore 6, 2) := by decide +kernel
theorem eX23_layPart_64 : decode cX23_layPart 64 = .ok (.iload 6, 2) := by decide +kernel
theorem eX23_layPart_66 : decode cX23_layPart 66 = .ok (.aload 4, 2) := by decide +kernel
theorem eX23_layPart_68 : decode cX23_layPart 68 = .ok (.getfield 711, 3) := by decide +kernel
theorem eX23_layPart_71 : decode cX23_layPart 71 = .ok (.if_icmp .gt 25, 3) := by decide +kernel
theorem eX23_layPart_74 : decode cX23_layPart 74 = .ok (.aload 5, 2) := by decide +kernel
theorem eX23_layPart_76 : decode cX23_layPart 76 = .ok (.getfield 683, 3) := by decide +kernel
theorem eX23_layPart_79 : decode cX23_layPart 79 = .ok (.iload 6, 2) := by decide +kernel
theorem eX23_layPart_81 : decode cX23_layPart 81 = .ok (.aload 4, 2) := by decide +kernel
theorem eX23_layPart_83 : decode cX23_layPart 83 = .ok (.getfield 683, 3) := by decide +kernel
theorem eX23_layPart_86 : decode cX23_layPart 86 = .ok (.iload 6, 2) := by decide +kernel
theorem eX23_layPart_88 : decode cX23_layPart 88 = .ok (.aaload, 1) := by decide +kernel
theorem eX23_layPart_89 : decode cX23_layPart 89 = .ok (.aastore, 1) := by decide +kernel
theorem eX23_layPart_90 : decode cX23_layPart 90 = .ok (.iinc 6 1, 3) := by decide +kernel
theorem eX23_layPart_93 : decode cX23_layPart 93 = .ok (.goto (-29), 3) := by decide +kernel
theorem eX23_layPart_96 : decode cX23_layPart 96 = .ok (.aload 5, 2) := by decide +kernel
theorem eX23_layPart_98 : decode cX23_layPart 98 = .ok (.getfield 688, 3) := by decide +kernel
theorem eX23_layPart_101 : decode cX23_layPart 101 = .ok (.aload 4, 2) := by decide +kernel
theorem eX23_layPart_103 : decode cX23_layPart 103 = .ok (.getfield 711, 3) := by decide +kernel
theorem eX23_layPart_106 : decode cX23_layPart 106 = .ok (.sipush 1000, 3) := by decide +kernel
theorem eX23_layPart_109 : decode cX23_layPart 109 = .ok (.bipush 16, 2) := by decide +kernel
theorem eX23_layPart_111 : decode cX23_layPart 111 = .ok (.aload_n 2, 1) := by decide +kernel
theorem eX23_layPart_112 : decode cX23_layPart 112 = .ok (.getfield 591, 3) := by decide +kernel
theorem eX23_layPart_115 : decode cX23_layPart 115 = .ok (.imul, 1) := by decide +kernel
theorem eX23_layPart_116 : decode cX23_layPart 116 = .ok (.iadd, 1) := by decide +kernel
theorem eX23_layPart_117 : decode cX23_layPart 117 = .ok (.iload_n 3, 1) := by decide +kernel
theorem eX23_layPart_118 : decode cX23_layPart 118 = .ok (.iadd, 1) := by decide +kernel
theorem eX23_layPart_119 : decode cX23_layPart 119 = .ok (.iastore, 1) := by decide +kernel
theorem eX23_layPart_120 : decode cX23_layPart 120 = .ok (.aload 5, 2) := by decide +kernel
theorem eX23_layPart_122 : decode cX23_layPart 122 = .ok (.getfield 683, 3) := by decide +kernel
theorem eX23_layPart_125 : decode cX23_layPart 125 = .ok (.aload 4, 2) := by decide +kernel
theorem eX23_layPart_127 : decode cX23_layPart 127 = .ok (.getfield 711, 3) := by decide +kernel
theorem eX23_layPart_130 : decode cX23_layPart 130 = .ok (.iconst 1, 1) := by decide +kernel
theorem eX23_layPart_131 : decode cX23_layPart 131 = .ok (.iadd, 1) := by decide +kernel
theorem eX23_layPart_132 : decode cX23_layPart 132 = .ok (.aload_n 2, 1) := by decide +kernel
theorem eX23_layPart_133 : decode cX23_layPart 133 = .ok (.getfield 596, 3) := by decide +kernel
theorem eX23_layPart_136 : decode cX23_layPart 136 = .ok (.iload_n 3, 1) := by decide +kernel
theorem eX23_layPart_137 : decode cX23_layPart 137 = .ok (.aaload, 1) := by decide +kernel
theorem eX23_layPart_138 : decode cX23_layPart 138 = .ok (.getfield 471, 3) := by decide +kernel
theorem eX23_layPart_141 : decode cX23_layPart 141 = .ok (.getfield 390, 3) := by decide +kernel
theorem eX23_layPart_144 : decode cX23_layPart 144 = .ok (.aastore, 1) := by decide +kernel
theorem eX23_layPart_145 : decode cX23_layPart 145 = .ok (.aload_n 0, 1) := by decide +kernel
theorem eX23_layPart_146 : decode cX23_layPart 146 = .ok (.bipush 23, 2) := by decide +kernel
theorem eX23_layPart_148 : decode cX23_layPart 148 = .ok (.aload_n 1, 1) := by decide +kernel
theorem eX23_layPart_149 : decode cX23_layPart 149 = .ok (.getfield 268, 3) := by decide +kernel
theorem eX23_layPart_152 : decode cX23_layPart 152 = .ok (.getfield 350, 3) := by decide +kernel
theorem eX23_layPart_155 : decode cX23_layPart 155 = .ok (.invokevirtual 708, 3) := by decide +kernel
theorem eX23_layPart_158 : decode cX23_layPart 158 = .ok (.istore 6, 2) := by decide +kernel
theorem eX23_layPart_160 : decode cX23_layPart 160 = .ok (.aload_n 0, 1) := by decide +kernel
theorem eX23_layPart_161 : decode cX23_layPart 161 = .ok (.iload 6, 2) := by decide +kernel
theorem eX23_layPart_163 : decode cX23_layPart 163 = .ok (.aload 5, 2) := by decide +kernel
theorem eX23_layPart_165 : decode cX23_layPart 165 = .ok (.invokevirtual 712, 3) := by decide +kernel
theorem eX23_layPart_168 : decode cX23_layPart 168 = .ok (.aload_n 0, 1) := by decide +kernel
theorem eX23_layPart_169 : decode cX23_layPart 169 = .ok (.getfield 663, 3) := by decide +kernel
theorem eX23_layPart_172 : decode cX23_layPart 172 = .ok (.iload 6, 2) := by decide +kernel
theorem eX23_layPart_174 : decode cX23_layPart 174 = .ok (.aload_n 2, 1) := by decide +kernel
theorem eX23_layPart_175 : decode cX23_layPart 175 = .ok (.getfield 596, 3) := by decide +kernel
theorem eX23_layPart_178 : decode cX23_layPart 178 = .ok (.iload_n 3, 1) := by decide +kernel
theorem eX23_layPart_179 : decode cX23_layPart 179 = .ok (.aaload, 1) := by decide +kernel
theorem eX23_layPart_180 : decode cX23_layPart 180 = .ok (.aastore, 1) := by decide +kernel
theorem eX23_layPart_181 : decode cX23_layPart 181 = .ok (.aload_n 0, 1) := by decide +kernel
theorem eX23_layPart_182 : decode cX23_layPart 182 = .ok (.getfield 646, 3) := by decide +kernel
theorem eX23_layPart_185 : decode cX23_layPart 185 = .ok (.iload 6, 2) := by decide +kernel
theorem eX23_layPart_187 : decode cX23_layPart 187 = .ok (.aload_n 0, 1) := by decide +kernel
theorem eX23_layPart_188 : decode cX23_layPart 188 = .ok (.aload 5, 2) := by decide +kernel
theorem eX23_layPart_190 : decode cX23_layPart 190 = .ok (.aload_n 1, 1) := by decide +kernel
theorem eX23_layPart_191 : decode cX23_layPart 191 = .ok (.getfield 278, 3) := by decide +kernel
theorem eX23_layPart_194 : decode cX23_layPart 194 = .ok (.ifCond .ne 7, 3) := by decide +kernel
theorem eX23_layPart_197 : decode cX23_layPart 197 = .ok (.iconst 1, 1) := by decide +kernel
theorem eX23_layPart_198 : decode cX23_layPart 198 = .ok (.goto 4, 3) := by decide +kernel
theorem eX23_layPart_201 : decode cX23_layPart 201 = .ok (.iconst 0, 1) := by decide +kernel
theorem eX23_layPart_202 : decode cX23_layPart 202 = .ok (.invokevirtual 732, 3) := by decide +kernel
theorem eX23_layPart_205 : decode cX23_layPart 205 = .ok (.iastore, 1) := by decide +kernel
theorem eX23_layPart_206 : decode cX23_layPart 206 = .ok (.aload_n 0, 1) := by decide +kernel
theorem eX23_layPart_207 : decode cX23_layPart 207 = .ok (.getfield 643, 3) := by decide +kernel
theorem eX23_layPart_210 : decode cX23_layPart 210 = .ok (.iload 6, 2) := by decide +kernel
theorem eX23_layPart_212 : decode cX23_layPart 212 = .ok (.aload_n 2, 1) := by decide +kernel
theorem eX23_layPart_213 : decode cX23_layPart 213 = .ok (.getfield 596, 3) := by decide +kernel
theorem eX23_layPart_216 : decode cX23_layPart 216 = .ok (.iload_n 3, 1) := by decide +kernel
theorem eX23_layPart_217 : decode cX23_layPart 217 = .ok (.aaload, 1) := by decide +kernel
theorem eX23_layPart_218 : decode cX23_layPart 218 = .ok (.getfield 469, 3) := by decide +kernel
theorem eX23_layPart_221 : decode cX23_layPart 221 = .ok (.iastore, 1) := by decide +kernel
theorem eX23_layPart_222 : decode cX23_layPart 222 = .ok (.return_, 1) := by decide +kernel
theorem eX23_layReturn_0 : decode cX23_layReturn 0 = .ok (.aload_n 0, 1) := by decide +kernel
theorem eX23_layReturn_1 : decode cX23_layReturn 1 = .ok (.getfield 698, 3) := by decide +kernel
theorem eX23_layReturn_4 : decode cX23_layReturn 4 = .ok (.istore_n 2, 1) := by decide +kernel
theorem eX23_layReturn_5 : decode cX23_layReturn 5 = .ok (.aload_n 1, 1) := by decide +kernel
theorem eX23_layReturn_6 : decode cX23_layReturn 6 = .ok (.getfield 268, 3) := by decide +kernel
theorem eX23_layReturn_9 : decode cX23_layReturn 9 = .ok (.ifnull 11, 3) := by decide +kernel
theorem eX23_layReturn_12 : decode cX23_layReturn 12 = .ok (.aload_n 0, 1) := by decide +kernel
theorem eX23_layReturn_13 : decode cX23_layReturn 13 = .ok (.aload_n 1, 1) := by decide +kernel
theorem eX23_layReturn_14 : decode cX23_layReturn 14 = .ok (.getfield 268, 3) := by decide +kernel
theorem eX23_layReturn_17 : decode cX23_layReturn 17 = .ok (.invokevirtual 739, 3) := by decide +kernel
theorem eX23_layReturn_20 : decode cX23_layReturn 20 = .ok (.aload_n 0, 1) := by decide +kernel
theorem eX23_layReturn_21 : decode cX23_layReturn 21 = .ok (.iconst 0, 1) := by decide +kernel
theorem eX23_layReturn_22 : decode cX23_layReturn 22 = .ok (.aload_n 1, 1) := by decide +kernel
theorem eX23_layReturn_23 : decode cX23_layReturn 23 = .ok (.getfield 255, 3) := by decide +kernel
theorem eX23_layReturn_26 : decode cX23_layReturn 26 = .ok (.invokevirtual 772, 3) := by decide +kernel
theorem eX23_layReturn_29 : decode cX23_layReturn 29 = .ok (.aload_n 1, 1) := by decide +kernel
theorem eX23_layReturn_30 : decode cX23_layReturn 30 = .ok (.getfield 268, 3) := by decide +kernel
theorem eX23_layReturn_33 : decode cX23_layReturn 33 = .ok (.ifnull 54, 3) := by decide +kernel
theorem eX23_layReturn_36 : decode cX23_layReturn 36 = .ok (.aload_n 1, 1) := by decide +kernel
theorem eX23_layReturn_37 : decode cX23_layReturn 37 = .ok (.getfield 268, 3) := by decide +kernel
theorem eX23_layReturn_40 : decode cX23_layReturn 40 = .ok (.getfield 484, 3) := by decide +kernel
theorem eX23_layReturn_43 : decode cX23_layReturn 43 = .ok (.invokestatic 503, 3) := by decide +kernel
theorem eX23_layReturn_46 : decode cX23_layReturn 46 = .ok (.ifCond .eq 41, 3) := by decide +kernel
theorem eX23_layReturn_49 : decode cX23_layReturn 49 = .ok (.aload_n 0, 1) := by decide +kernel
theorem eX23_layReturn_50 : decode cX23_layReturn 50 = .ok (.bipush 25, 2) := by decide +kernel
theorem eX23_layReturn_52 : decode cX23_layReturn 52 = .ok (.aload_n 1, 1) := by decide +kernel
theorem eX23_layReturn_53 : decode cX23_layReturn 53 = .ok (.getfield 268, 3) := by decide +kernel
theorem eX23_layReturn_56 : decode cX23_layReturn 56 = .ok (.getfield 350, 3) := by decide +kernel
theorem eX23_layReturn_59 : decode cX23_layReturn 59 = .ok (.invokevirtual 708, 3) := by decide +kernel
theorem eX23_layReturn_62 : decode cX23_layReturn 62 = .ok (.istore_n 3, 1) := by decide +kernel
theorem eX23_layReturn_63 : decode cX23_layReturn 63 = .ok (.aload_n 0, 1) := by decide +kernel
theorem eX23_layReturn_64 : decode cX23_layReturn 64 = .ok (.getfield 653, 3) := by decide +kernel
theorem eX23_layReturn_67 : decode cX23_layReturn 67 = .ok (.iload_n 3, 1) := by decide +kernel
theorem eX23_layReturn_68 : decode cX23_layReturn 68 = .ok (.aload_n 0, 1) := by decide +kernel
theorem eX23_layReturn_69 : decode cX23_layReturn 69 = .ok (.iload_n 2, 1) := by decide +kernel
theorem eX23_layReturn_70 : decode cX23_layReturn 70 = .ok (.invokestatic 701, 3) := by decide +kernel
theorem eX23_layReturn_73 : decode cX23_layReturn 73 = .ok (.invokevirtual 694, 3) := by decide +kernel
theorem eX23_layReturn_76 : decode cX23_layReturn 76 = .ok (.aastore, 1) := by decide +kernel
theorem eX23_layReturn_77 : decode cX23_layReturn 77 = .ok (.aload_n 0, 1) := by decide +kernel
theorem eX23_layReturn_78 : decode cX23_layReturn 78 = .ok (.getfield 629, 3) := by decide +kernel
theorem eX23_layReturn_81 : decode cX23_layReturn 81 = .ok (.iload_n 3, 1) := by decide +kernel
theorem eX23_layReturn_82 : decode cX23_layReturn 82 = .ok (.iload_n 2, 1) := by decide +kernel
theorem eX23_layReturn_83 : decode cX23_layReturn 83 = .ok (.invokestatic 701, 3) := by decide +kernel
theorem eX23_layReturn_86 : decode cX23_layReturn 86 = .ok (.iastore, 1) := by decide +kernel
theorem eX23_layReturn_87 : decode cX23_layReturn 87 = .ok (.aload_n 0, 1) := by decide +kernel
theorem eX23_layReturn_88 : decode cX23_layReturn 88 = .ok (.bipush 26, 2) := by decide +kernel
theorem eX23_layReturn_90 : decode cX23_layReturn 90 = .ok (.aload_n 1, 1) := by decide +kernel
theorem eX23_layReturn_91 : decode cX23_layReturn 91 = .ok (.getfield 255, 3) := by decide +kernel
theorem eX23_layReturn_94 : decode cX23_layReturn 94 = .ok (.invokevirtual 708, 3) := by decide +kernel
theorem eX23_layReturn_97 : decode cX23_layReturn 97 = .ok (.pop, 1) := by decide +kernel
theorem eX23_layReturn_98 : decode cX23_layReturn 98 = .ok (.aload_n 0, 1) := by decide +kernel
theorem eX23_layReturn_99 : decode cX23_layReturn 99 = .ok (.iload_n 2, 1) := by decide +kernel
theorem eX23_layReturn_100 : decode cX23_layReturn 100 = .ok (.putfield 698, 3) := by decide +kernel
theorem eX23_layReturn_103 : decode cX23_layReturn 103 = .ok (.return_, 1) := by decide +kernel
theorem eX23_layWhile_0 : decode cX23_layWhile 0 = .ok (.aload_n 0, 1) := by decide +kernel
theorem eX23_layWhile_1 : decode cX23_layWhile 1 = .ok (.iconst 0, 1) := by decide +kernel
theorem eX23_layWhile_2 : decode cX23_layWhile 2 = .ok (.aload_n 1, 1) := by decide +kernel
theorem eX23_layWhile_3 : decode cX23_layWhile 3 = .ok (.getfield 255, 3) := by decide +kernel
theorem eX23_layWhile_6 : decode cX23_layWhile 6 = .ok (.invokevirtual 708, 3) := by decide +kernel
theorem eX23_layWhile_9 : decode cX23_layWhile 9 = .ok (.istore_n 2, 1) := by decide +kernel
theorem eX23_layWhile_10 : decode cX23_layWhile 10 = .ok (.aload_n 0, 1) := by decide +kernel
theorem eX23_layWhile_11 : decode cX23_layWhile 11 = .ok (.aload_n 1, 1) := by decide +kernel
theorem eX23_layWhile_12 : decode cX23_layWhile 12 = .ok (.getfield 268, 3) := by decide +kernel
theorem eX23_layWhile_15 : decode cX23_layWhile 15 = .ok (.invokevirtual 739, 3) := by decide +kernel
theorem eX23_layWhile_18 : decode cX23_layWhile 18 = .ok (.aload_n 0, 1) := by decide +kernel
theorem eX23_layWhile_19 : decode cX23_layWhile 19 = .ok (.dup, 1) := by decide +kernel
theorem eX23_layWhile_20 : decode cX23_layWhile 20 = .ok (.getfield 698, 3) := by decide +kernel
theorem eX23_layWhile_23 : decode cX23_layWhile 23 = .ok (.iconst 1, 1) := by decide +kernel
theorem eX23_layWhile_24 : decode cX23_layWhile 24 = .ok (.isub, 1) := by decide +kernel
theorem eX23_layWhile_25 : decode cX23_layWhile 25 = .ok (.putfield 698, 3) := by decide +kernel
theorem eX23_layWhile_28 : decode cX23_layWhile 28 = .ok (.aload_n 0, 1) := by decide +kernel
theorem eX23_layWhile_29 : decode cX23_layWhile 29 = .ok (.bipush 17, 2) := by decide +kernel
theorem eX23_layWhile_31 : decode cX23_layWhile 31 = .ok (.aload_n 1, 1) := by decide +kernel
theorem eX23_layWhile_32 : decode cX23_layWhile 32 = .ok (.getfield 255, 3) := by decide +kernel
theorem eX23_layWhile_35 : decode cX23_layWhile 35 = .ok (.invokevirtual 708, 3) := by decide +kernel
theorem eX23_layWhile_38 : decode cX23_layWhile 38 = .ok (.istore_n 3, 1) := by decide +kernel
theorem eX23_layWhile_39 : decode cX23_layWhile 39 = .ok (.aload_n 0, 1) := by decide +kernel
theorem eX23_layWhile_40 : decode cX23_layWhile 40 = .ok (.aload_n 1, 1) := by decide +kernel
theorem eX23_layWhile_41 : decode cX23_layWhile 41 = .ok (.getfield 271, 3) := by decide +kernel
theorem eX23_layWhile_44 : decode cX23_layWhile 44 = .ok (.invokevirtual 793, 3) := by decide +kernel
theorem eX23_layWhile_47 : decode cX23_layWhile 47 = .ok (.aload_n 0, 1) := by decide +kernel
theorem eX23_layWhile_48 : decode cX23_layWhile 48 = .ok (.getfield 635, 3) := by decide +kernel
theorem eX23_layWhile_51 : decode cX23_layWhile 51 = .ok (.aload_n 0, 1) := by decide +kernel
theorem eX23_layWhile_52 : decode cX23_layWhile 52 = .ok (.bipush 16, 2) := by decide +kernel
theorem eX23_layWhile_54 : decode cX23_layWhile 54 = .ok (.aload_n 1, 1) := by decide +kernel
theorem eX23_layWhile_55 : decode cX23_layWhile 55 = .ok (.getfield 255, 3) := by decide +kernel
theorem eX23_layWhile_58 : decode cX23_layWhile 58 = .ok (.invokevirtual 708, 3) := by decide +kernel
theorem eX23_layWhile_61 : decode cX23_layWhile 61 = .ok (.iload_n 2, 1) := by decide +kernel
theorem eX23_layWhile_62 : decode cX23_layWhile 62 = .ok (.iastore, 1) := by decide +kernel
theorem eX23_layWhile_63 : decode cX23_layWhile 63 = .ok (.aload_n 0, 1) := by decide +kernel
theorem eX23_layWhile_64 : decode cX23_layWhile 64 = .ok (.getfield 635, 3) := by decide +kernel
theorem eX23_layWhile_67 : decode cX23_layWhile 67 = .ok (.iload_n 3, 1) := by decide +kernel
theorem eX23_layWhile_68 : decode cX23_layWhile 68 = .ok (.aload_n 0, 1) := by decide +kernel
theorem eX23_layWhile_69 : decode cX23_layWhile 69 = .ok (.getfield 622, 3) := by decide +kernel
theorem eX23_layWhile_72 : decode cX23_layWhile 72 = .ok (.iastore, 1) := by decide +kernel
theorem eX23_layWhile_73 : decode cX23_layWhile 73 = .ok (.return_, 1) := by decide +kernel
theorem eX23_layMatch_0 : decode cX23_layMatch 0 = .ok (.aload_n 1, 1) := by decide +kernel
theorem eX23_layMatch_1 : decode cX23_layMatch 1 = .ok (.getfield 312, 3) := by decide +kernel
theorem eX23_layMatch_4 : decode cX23_layMatch 4 = .ok (.ifCond .eq 14, 3) := by decide +kernel
theorem eX23_layMatch_7 : decode cX23_layMatch 7 = .ok (.aload_n 0, 1) := by decide +kernel
theorem eX23_layMatch_8 : decode cX23_layMatch 8 = .ok (.aload_n 1, 1) := by decide +kernel
theorem eX23_layMatch_9 : decode cX23_layMatch 9 = .ok (.getfield 268, 3) := by decide +kernel
theorem eX23_layMatch_12 : decode cX23_layMatch 12 = .ok (.invokevirtual 704, 3) := by decide +kernel
theorem eX23_layMatch_15 : decode cX23_layMatch 15 = .ok (.goto 4, 3) := by decide +kernel
theorem eX23_layMatch_18 : decode cX23_layMatch 18 = .ok (.aconst_null, 1) := by decide +kernel
theorem eX23_layMatch_19 : decode cX23_layMatch 19 = .ok (.astore_n 2, 1) := by decide +kernel
theorem eX23_layMatch_20 : decode cX23_layMatch 20 = .ok (.aload_n 1, 1) := by decide +kernel
theorem eX23_layMatch_21 : decode cX23_layMatch 21 = .ok (.getfield 312, 3) := by decide +kernel
theorem eX23_layMatch_24 : decode cX23_layMatch 24 = .ok (.ifCond .ne 11, 3) := by decide +kernel
theorem eX23_layMatch_27 : decode cX23_layMatch 27 = .ok (.aload_n 0, 1) := by decide +kernel
theorem eX23_layMatch_28 : decode cX23_layMatch 28 = .ok (.aload_n 1, 1) := by decide +kernel
theorem eX23_layMatch_29 : decode cX23_layMatch 29 = .ok (.getfield 268, 3) := by decide +kernel
theorem eX23_layMatch_32 : decode cX23_layMatch 32 = .ok (.invokevirtual 739, 3) := by decide +kernel
theorem eX23_layMatch_35 : decode cX23_layMatch 35 = .ok (.aload_n 0, 1) := by decide +kernel
theorem eX23_layMatch_36 : decode cX23_layMatch 36 = .ok (.aload_n 1, 1) := by decide +kernel
theorem eX23_layMatch_37 : decode cX23_layMatch 37 = .ok (.getfield 312, 3) := by decide +kernel
theorem eX23_layMatch_40 : decode cX23_layMatch 40 = .ok (.ifCond .eq 8, 3) := by decide +kernel
theorem eX23_layMatch_43 : decode cX23_layMatch 43 = .ok (.bipush 21, 2) := by decide +kernel
theorem eX23_layMatch_45 : decode cX23_layMatch 45 = .ok (.goto 5, 3) := by decide +kernel
theorem eX23_layMatch_48 : decode cX23_layMatch 48 = .ok (.bipush 20, 2) := by decide +kernel
theorem eX23_layMatch_50 : decode cX23_layMatch 50 = .ok (.aload_n 1, 1) := by decide +kernel
theorem eX23_layMatch_51 : decode cX23_layMatch 51 = .ok (.getfield 268, 3) := by decide +kernel
theorem eX23_layMatch_54 : decode cX23_layMatch 54 = .ok (.getfield 350, 3) := by decide +kernel
theorem eX23_layMatch_57 : decode cX23_layMatch 57 = .ok (.invokevirtual 708, 3) := by decide +kernel
theorem eX23_layMatch_60 : decode cX23_layMatch 60 = .ok (.istore_n 3, 1) := by decide +kernel
theorem eX23_layMatch_61 : decode cX23_layMatch 61 = .ok (.aload_n 1, 1) := by decide +kernel
theorem eX23_layMatch_62 : decode cX23_layMatch 62 = .ok (.getfield 312, 3) := by decide +kernel
theorem eX23_layMatch_65 : decode cX23_layMatch 65 = .ok (.ifCond .eq 30, 3) := by decide +kernel
theorem eX23_layMatch_68 : decode cX23_layMatch 68 = .ok (.aload_n 0, 1) := by decide +kernel
theorem eX23_layMatch_69 : decode cX23_layMatch 69 = .ok (.iload_n 3, 1) := by decide +kernel
theorem eX23_layMatch_70 : decode cX23_layMatch 70 = .ok (.aload_n 2, 1) := by decide +kernel
theorem eX23_layMatch_71 : decode cX23_layMatch 71 = .ok (.invokevirtual 712, 3) := by decide +kernel
theorem eX23_layMatch_74 : decode cX23_layMatch 74 = .ok (.aload_n 0, 1) := by decide +kernel
theorem eX23_layMatch_75 : decode cX23_layMatch 75 = .ok (.getfield 640, 3) := by decide +kernel
theorem eX23_layMatch_78 : decode cX23_layMatch 78 = .ok (.iload_n 3, 1) := by decide +kernel
theorem eX23_layMatch_79 : decode cX23_layMatch 79 = .ok (.aload_n 1, 1) := by decide +kernel
theorem eX23_layMatch_80 : decode cX23_layMatch 80 = .ok (.getfield 278, 3) := by decide +kernel
theorem eX23_layMatch_83 : decode cX23_layMatch 83 = .ok (.ifCond .eq 7, 3) := by decide +kernel
theorem eX23_layMatch_86 : decode cX23_layMatch 86 = .ok (.iconst 3, 1) := by decide +kernel
theorem eX23_layMatch_87 : decode cX23_layMatch 87 = .ok (.goto 4, 3) := by decide +kernel
theorem eX23_layMatch_90 : decode cX23_layMatch 90 = .ok (.iconst 2, 1) := by decide +kernel
theorem eX23_layMatch_91 : decode cX23_layMatch 91 = .ok (.iastore, 1) := by decide +kernel
theorem eX23_layMatch_92 : decode cX23_layMatch 92 = .ok (.goto 13, 3) := by decide +kernel
theorem eX23_layMatch_95 : decode cX23_layMatch 95 = .ok (.aload_n 0, 1) := by decide +kernel
theorem eX23_layMatch_96 : decode cX23_layMatch 96 = .ok (.dup, 1) := by decide +kernel
theorem eX23_layMatch_97 : decode cX23_layMatch 97 = .ok (.getfield 698, 3) := by decide +kernel
theorem eX23_layMatch_100 : decode cX23_layMatch 100 = .ok (.iconst 1, 1) := by decide +kernel
theorem eX23_layMatch_101 : decode cX23_layMatch 101 = .ok (.isub, 1) := by decide +kernel
theorem eX23_layMatch_102 : decode cX23_layMatch 102 = .ok (.putfield 698, 3) := by decide +kernel
theorem eX23_layMatch_105 : decode cX23_layMatch 105 = .ok (.aload_n 0, 1) := by decide +kernel
theorem eX23_layMatch_106 : decode cX23_layMatch 106 = .ok (.getfield 668, 3) := by decide +kernel
theorem eX23_layMatch_109 : decode cX23_layMatch 109 = .ok (.iload_n 3, 1) := by decide +kernel
theorem eX23_layMatch_110 : decode cX23_layMatch 110 = .ok (.aload_n 0, 1) := by decide +kernel
theorem eX23_layMatch_111 : decode cX23_layMatch 111 = .ok (.getfield 232, 3) := by decide +kernel
theorem eX23_layMatch_114 : decode cX23_layMatch 114 = .ok (.aload_n 1, 1) := by decide +kernel
theorem eX23_layMatch_115 : decode cX23_layMatch 115 = .ok (.getfield 268, 3) := by decide +kernel
theorem eX23_layMatch_118 : decode cX23_layMatch 118 = .ok (.getfield 484, 3) := by decide +kernel
theorem eX23_layMatch_121 : decode cX23_layMatch 121 = .ok (.getfield 387, 3) := by decide +kernel
theorem eX23_layMatch_124 : decode cX23_layMatch 124 = .ok (.aaload, 1) := by decide +kernel
theorem eX23_layMatch_125 : decode cX23_layMatch 125 = .ok (.getfield 139, 3) := by decide +kernel
theorem eX23_layMatch_128 : decode cX23_layMatch 128 = .ok (.newarray .int, 2) := by decide +kernel
theorem eX23_layMatch_130 : decode cX23_layMatch 130 = .ok (.aastore, 1) := by decide +kernel
theorem eX23_layMatch_131 : decode cX23_layMatch 131 = .ok (.aload_n 1, 1) := by decide +kernel
theorem eX23_layMatch_132 : decode cX23_layMatch 132 = .ok (.getfield 305, 3) := by decide +kernel
theorem eX23_layMatch_135 : decode cX23_layMatch 135 = .ok (.newarray .int, 2) := by decide +kernel
theorem eX23_layMatch_137 : decode cX23_layMatch 137 = .ok (.astore 4, 2) := by decide +kernel
theorem eX23_layMatch_139 : decode cX23_layMatch 139 = .ok (.iconst 0, 1) := by decide +kernel
theorem eX23_layMatch_140 : decode cX23_layMatch 140 = .ok (.istore 5, 2) := by decide +kernel
theorem eX23_layMatch_142 : decode cX23_layMatch 142 = .ok (.iload 5, 2) := by decide +kernel
theorem eX23_layMatch_144 : decode cX23_layMatch 144 = .ok (.aload_n 1, 1) := by decide +kernel
theorem eX23_layMatch_145 : decode cX23_layMatch 145 = .ok (.getfield 305, 3) := by decide +kernel
theorem eX23_layMatch_148 : decode cX23_layMatch 148 = .ok (.if_icmp .ge 157, 3) := by decide +kernel
theorem eX23_layMatch_151 : decode cX23_layMatch 151 = .ok (.aload_n 1, 1) := by decide +kernel
theorem eX23_layMatch_152 : decode cX23_layMatch 152 = .ok (.getfield 317, 3) := by decide +kernel
theorem eX23_layMatch_155 : decode cX23_layMatch 155 = .ok (.iload 5, 2) := by decide +kernel
theorem eX23_layMatch_157 : decode cX23_layMatch 157 = .ok (.aaload, 1) := by decide +kernel
theorem eX23_layMatch_158 : decode cX23_layMatch 158 = .ok (.astore 6, 2) := by decide +kernel
theorem eX23_layMatch_160 : decode cX23_layMatch 160 = .ok (.aload_n 0, 1) := by decide +kernel
theorem eX23_layMatch_161 : decode cX23_layMatch 161 = .ok (.getfield 766, 3) := by decide +kernel
theorem eX23_layMatch_164 : decode cX23_layMatch 164 = .ok (.istore 7, 2) := by decide +kernel
theorem eX23_layMatch_166 : decode cX23_layMatch 166 = .ok (.aload_n 0, 1) := by decide +kernel
theorem eX23_layMatch_167 : decode cX23_layMatch 167 = .ok (.getfield 668, 3) := by decide +kernel
theorem eX23_layMatch_170 : decode cX23_layMatch 170 = .ok (.iload_n 3, 1) := by decide +kernel
theorem eX23_layMatch_171 : decode cX23_layMatch 171 = .ok (.aaload, 1) := by decide +kernel
theorem eX23_layMatch_172 : decode cX23_layMatch 172 = .ok (.aload 6, 2) := by decide +kernel
theorem eX23_layMatch_174 : decode cX23_layMatch 174 = .ok (.getfield 591, 3) := by decide +kernel
theorem eX23_layMatch_177 : decode cX23_layMatch 177 = .ok (.aload_n 0, 1) := by decide +kernel
theorem eX23_layMatch_178 : decode cX23_layMatch 178 = .ok (.getfield 622, 3) := by decide +kernel
theorem eX23_layMatch_181 : decode cX23_layMatch 181 = .ok (.iastore, 1) := by decide +kernel
theorem eX23_layMatch_182 : decode cX23_layMatch 182 = .ok (.aload_n 1, 1) := by decide +kernel
theorem eX23_layMatch_183 : decode cX23_layMatch 183 = .ok (.getfield 312, 3) := by decide +kernel
theorem eX23_layMatch_186 : decode cX23_layMatch 186 = .ok (.ifCond .ne 21, 3) := by decide +kernel
theorem eX23_layMatch_189 : decode cX23_layMatch 189 = .ok (.aload_n 0, 1) := by decide +kernel
theorem eX23_layMatch_190 : decode cX23_layMatch 190 = .ok (.getfield 665, 3) := by decide +kernel
theorem eX23_layMatch_193 : decode cX23_layMatch 193 = .ok (.aload_n 0, 1) := by decide +kernel
theorem eX23_layMatch_194 : decode cX23_layMatch 194 = .ok (.bipush 22, 2) := by decide +kernel
theorem eX23_layMatch_196 : decode cX23_layMatch 196 = .ok (.aload 6, 2) := by decide +kernel
theorem eX23_layMatch_198 : decode cX23_layMatch 198 = .ok (.getfield 326, 3) := by decide +kernel
theorem eX23_layMatch_201 : decode cX23_layMatch 201 = .ok (.invokevirtual 708, 3) := by decide +kernel
theorem eX23_layMatch_204 : decode cX23_layMatch 204 = .ok (.aload 6, 2) := by decide +kernel
theorem eX23_layMatch_206 : decode cX23_layMatch 206 = .ok (.aastore, 1) := by decide +kernel
theorem eX23_layMatch_207 : decode cX23_layMatch 207 = .ok (.iconst 0, 1) := by decide +kernel
theorem eX23_layMatch_208 : decode cX23_layMatch 208 = .ok (.istore 8, 2) := by decide +kernel
theorem eX23_layMatch_210 : decode cX23_layMatch 210 = .ok (.iload 8, 2) := by decide +kernel
theorem eX23_layMatch_212 : decode cX23_layMatch 212 = .ok (.aload 6, 2) := by decide +kernel
theorem eX23_layMatch_214 : decode cX23_layMatch 214 = .ok (.getfield 327, 3) := by decide +kernel
theorem eX23_layMatch_217 : decode cX23_layMatch 217 = .ok (.if_icmp .ge 38, 3) := by decide +kernel
theorem eX23_layMatch_220 : decode cX23_layMatch 220 = .ok (.aload_n 1, 1) := by decide +kernel
theorem eX23_layMatch_221 : decode cX23_layMatch 221 = .ok (.getfield 312, 3) := by decide +kernel
theorem eX23_layMatch_224 : decode cX23_layMatch 224 = .ok (.ifCond .eq 13, 3) := by decide +kernel
theorem eX23_layMatch_227 : decode cX23_layMatch 227 = .ok (.aload_n 0, 1) := by decide +kernel
theorem eX23_layMatch_228 : decode cX23_layMatch 228 = .ok (.aload_n 1, 1) := by decide +kernel
theorem eX23_layMatch_229 : decode cX23_layMatch 229 = .ok (.aload 6, 2) := by decide +kernel
theorem eX23_layMatch_231 : decode cX23_layMatch 231 = .ok (.iload 8, 2) := by decide +kernel
theorem eX23_layMatch_233 : decode cX23_layMatch 233 = .ok (.aload_n 2, 1) := by decide +kernel
theorem eX23_layMatch_234 : decode cX23_layMatch 234 = .ok (.invokevirtual 803, 3) := by decide +kernel
theorem eX23_layMatch_237 : decode cX23_layMatch 237 = .ok (.aload_n 0, 1) := by decide +kernel
theorem eX23_layMatch_238 : decode cX23_layMatch 238 = .ok (.aload 6, 2) := by decide +kernel
theorem eX23_layMatch_240 : decode cX23_layMatch 240 = .ok (.getfield 596, 3) := by decide +kernel
theorem eX23_layMatch_243 : decode cX23_layMatch 243 = .ok (.iload 8, 2) := by decide +kernel
theorem eX23_layMatch_245 : decode cX23_layMatch 245 = .ok (.aaload, 1) := by decide +kernel
theorem eX23_layMatch_246 : decode cX23_layMatch 246 = .ok (.invokevirtual 799, 3) := by decide +kernel
theorem eX23_layMatch_249 : decode cX23_layMatch 249 = .ok (.iinc 8 1, 3) := by decide +kernel
theorem eX23_layMatch_252 : decode cX23_layMatch 252 = .ok (.goto (-42), 3) := by decide +kernel
theorem eX23_layMatch_255 : decode cX23_layMatch 255 = .ok (.aload_n 0, 1) := by decide +kernel
theorem eX23_layMatch_256 : decode cX23_layMatch 256 = .ok (.aload 6, 2) := by decide +kernel
theorem eX23_layMatch_258 : decode cX23_layMatch 258 = .ok (.getfield 329, 3) := by decide +kernel
theorem eX23_layMatch_261 : decode cX23_layMatch 261 = .ok (.invokevirtual 793, 3) := by decide +kernel
theorem eX23_layMatch_264 : decode cX23_layMatch 264 = .ok (.aload_n 0, 1) := by decide +kernel
theorem eX23_layMatch_265 : decode cX23_layMatch 265 = .ok (.iload 7, 2) := by decide +kernel
theorem eX23_layMatch_267 : decode cX23_layMatch 267 = .ok (.aload 6, 2) := by decide +kernel
theorem eX23_layMatch_269 : decode cX23_layMatch 269 = .ok (.getfield 329, 3) := by decide +kernel
theorem eX23_layMatch_272 : decode cX23_layMatch 272 = .ok (.getfield 251, 3) := by decide +kernel
theorem eX23_layMatch_275 : decode cX23_layMatch 275 = .ok (.invokevirtual 772, 3) := by decide +kernel
theorem eX23_layMatch_278 : decode cX23_layMatch 278 = .ok (.aload_n 0, 1) := by decide +kernel
theorem eX23_layMatch_279 : decode cX23_layMatch 279 = .ok (.iload 7, 2) := by decide +kernel
theorem eX23_layMatch_281 : decode cX23_layMatch 281 = .ok (.putfield 766, 3) := by decide +kernel
theorem eX23_layMatch_284 : decode cX23_layMatch 284 = .ok (.aload 4, 2) := by decide +kernel
theorem eX23_layMatch_286 : decode cX23_layMatch 286 = .ok (.iload 5, 2) := by decide +kernel
theorem eX23_layMatch_288 : decode cX23_layMatch 288 = .ok (.aload_n 0, 1) := by decide +kernel
theorem eX23_layMatch_289 : decode cX23_layMatch 289 = .ok (.bipush 16, 2) := by decide +kernel
theorem eX23_layMatch_291 : decode cX23_layMatch 291 = .ok (.aload_n 1, 1) := by decide +kernel
theorem eX23_layMatch_292 : decode cX23_layMatch 292 = .ok (.getfield 255, 3) := by decide +kernel
theorem eX23_layMatch_295 : decode cX23_layMatch 295 = .ok (.invokevirtual 708, 3) := by decide +kernel
theorem eX23_layMatch_298 : decode cX23_layMatch 298 = .ok (.iastore, 1) := by decide +kernel
theorem eX23_layMatch_299 : decode cX23_layMatch 299 = .ok (.iinc 5 1, 3) := by decide +kernel
theorem eX23_layMatch_302 : decode cX23_layMatch 302 = .ok (.goto (-160), 3) := by decide +kernel
theorem eX23_layMatch_305 : decode cX23_layMatch 305 = .ok (.iconst 0, 1) := by decide +kernel
theorem eX23_layMatch_306 : decode cX23_layMatch 306 = .ok (.istore 5, 2) := by decide +kernel
theorem eX23_layMatch_308 : decode cX23_layMatch 308 = .ok (.iload 5, 2) := by decide +kernel
theorem eX23_layMatch_310 : decode cX23_layMatch 310 = .ok (.aload_n 1, 1) := by decide +kernel
theorem eX23_layMatch_311 : decode cX23_layMatch 311 = .ok (.getfield 305, 3) := by decide +kernel
theorem eX23_layMatch_314 : decode cX23_layMatch 314 = .ok (.if_icmp .ge 23, 3) := by decide +kernel
theorem eX23_layMatch_317 : decode cX23_layMatch 317 = .ok (.aload_n 0, 1) := by decide +kernel
theorem eX23_layMatch_318 : decode cX23_layMatch 318 = .ok (.getfield 635, 3) := by decide +kernel
theorem eX23_layMatch_321 : decode cX23_layMatch 321 = .ok (.aload 4, 2) := by decide +kernel
theorem eX23_layMatch_323 : decode cX23_layMatch 323 = .ok (.iload 5, 2) := by decide +kernel
theorem eX23_layMatch_325 : decode cX23_layMatch 325 = .ok (.iaload, 1) := by decide +kernel
theorem eX23_layMatch_326 : decode cX23_layMatch 326 = .ok (.aload_n 0, 1) := by decide +kernel
theorem eX23_layMatch_327 : decode cX23_layMatch 327 = .ok (.getfield 622, 3) := by decide +kernel
theorem eX23_layMatch_330 : decode cX23_layMatch 330 = .ok (.iastore, 1) := by decide +kernel
theorem eX23_layMatch_331 : decode cX23_layMatch 331 = .ok (.iinc 5 1, 3) := by decide +kernel
theorem eX23_layMatch_334 : decode cX23_layMatch 334 = .ok (.goto (-26), 3) := by decide +kernel
theorem eX23_layMatch_337 : decode cX23_layMatch 337 = .ok (.return_, 1) := by decide +kernel
theorem eX23_layIf_0 : decode cX23_layIf 0 = .ok (.aload_n 1, 1) := by decide +kernel
theorem eX23_layIf_1 : decode cX23_layIf 1 = .ok (.getfield 305, 3) := by decide +kernel
theorem eX23_layIf_4 : decode cX23_layIf 4 = .ok (.newarray .int, 2) := by decide +kernel
theorem eX23_layIf_6 : decode cX23_layIf 6 = .ok (.astore_n 2, 1) := by decide +kernel
theorem eX23_layIf_7 : decode cX23_layIf 7 = .ok (.iconst 0, 1) := by decide +kernel
theorem eX23_layIf_8 : decode cX23_layIf 8 = .ok (.istore_n 3, 1) := by decide +kernel
theorem eX23_layIf_9 : decode cX23_layIf 9 = .ok (.iload_n 3, 1) := by decide +kernel
theorem eX23_layIf_10 : decode cX23_layIf 10 = .ok (.aload_n 1, 1) := by decide +kernel
theorem eX23_layIf_11 : decode cX23_layIf 11 = .ok (.getfield 305, 3) := by decide +kernel
theorem eX23_layIf_14 : decode cX23_layIf 14 = .ok (.if_icmp .ge 92, 3) := by decide +kernel
theorem eX23_layIf_17 : decode cX23_layIf 17 = .ok (.iconst (-1), 1) := by decide +kernel
theorem eX23_layIf_18 : decode cX23_layIf 18 = .ok (.istore 4, 2) := by decide +kernel
theorem eX23_layIf_20 : decode cX23_layIf 20 = .ok (.aload_n 1, 1) := by decide +kernel
theorem eX23_layIf_21 : decode cX23_layIf 21 = .ok (.getfield 297, 3) := by decide +kernel
theorem eX23_layIf_24 : decode cX23_layIf 24 = .ok (.iload_n 3, 1) := by decide +kernel
theorem eX23_layIf_25 : decode cX23_layIf 25 = .ok (.aaload, 1) := by decide +kernel
theorem eX23_layIf_26 : decode cX23_layIf 26 = .ok (.ifnull 35, 3) := by decide +kernel
theorem eX23_layIf_29 : decode cX23_layIf 29 = .ok (.aload_n 0, 1) := by decide +kernel
theorem eX23_layIf_30 : decode cX23_layIf 30 = .ok (.aload_n 1, 1) := by decide +kernel
theorem eX23_layIf_31 : decode cX23_layIf 31 = .ok (.getfield 297, 3) := by decide +kernel
theorem eX23_layIf_34 : decode cX23_layIf 34 = .ok (.iload_n 3, 1) := by decide +kernel
theorem eX23_layIf_35 : decode cX23_layIf 35 = .ok (.aaload, 1) := by decide +kernel
theorem eX23_layIf_36 : decode cX23_layIf 36 = .ok (.invokevirtual 739, 3) := by decide +kernel
theorem eX23_layIf_39 : decode cX23_layIf 39 = .ok (.aload_n 0, 1) := by decide +kernel
theorem eX23_layIf_40 : decode cX23_layIf 40 = .ok (.dup, 1) := by decide +kernel
theorem eX23_layIf_41 : decode cX23_layIf 41 = .ok (.getfield 698, 3) := by decide +kernel
theorem eX23_layIf_44 : decode cX23_layIf 44 = .ok (.iconst 1, 1) := by decide +kernel
theorem eX23_layIf_45 : decode cX23_layIf 45 = .ok (.isub, 1) := by decide +kernel
theorem eX23_layIf_46 : decode cX23_layIf 46 = .ok (.putfield 698, 3) := by decide +kernel
theorem eX23_layIf_49 : decode cX23_layIf 49 = .ok (.aload_n 0, 1) := by decide +kernel
theorem eX23_layIf_50 : decode cX23_layIf 50 = .ok (.bipush 17, 2) := by decide +kernel
theorem eX23_layIf_52 : decode cX23_layIf 52 = .ok (.aload_n 1, 1) := by decide +kernel
theorem eX23_layIf_53 : decode cX23_layIf 53 = .ok (.getfield 255, 3) := by decide +kernel
theorem eX23_layIf_56 : decode cX23_layIf 56 = .ok (.invokevirtual 708, 3) := by decide +kernel
theorem eX23_layIf_59 : decode cX23_layIf 59 = .ok (.istore 4, 2) := by decide +kernel
theorem eX23_layIf_61 : decode cX23_layIf 61 = .ok (.aload_n 0, 1) := by decide +kernel
theorem eX23_layIf_62 : decode cX23_layIf 62 = .ok (.aload_n 1, 1) := by decide +kernel
theorem eX23_layIf_63 : decode cX23_layIf 63 = .ok (.getfield 301, 3) := by decide +kernel
theorem eX23_layIf_66 : decode cX23_layIf 66 = .ok (.iload_n 3, 1) := by decide +kernel
theorem eX23_layIf_67 : decode cX23_layIf 67 = .ok (.aaload, 1) := by decide +kernel
theorem eX23_layIf_68 : decode cX23_layIf 68 = .ok (.invokevirtual 793, 3) := by decide +kernel
theorem eX23_layIf_71 : decode cX23_layIf 71 = .ok (.aload_n 2, 1) := by decide +kernel
theorem eX23_layIf_72 : decode cX23_layIf 72 = .ok (.iload_n 3, 1) := by decide +kernel
theorem eX23_layIf_73 : decode cX23_layIf 73 = .ok (.aload_n 0, 1) := by decide +kernel
theorem eX23_layIf_74 : decode cX23_layIf 74 = .ok (.bipush 16, 2) := by decide +kernel
theorem eX23_layIf_76 : decode cX23_layIf 76 = .ok (.aload_n 1, 1) := by decide +kernel
theorem eX23_layIf_77 : decode cX23_layIf 77 = .ok (.getfield 255, 3) := by decide +kernel
theorem eX23_layIf_80 : decode cX23_layIf 80 = .ok (.invokevirtual 708, 3) := by decide +kernel
theorem eX23_layIf_83 : decode cX23_layIf 83 = .ok (.iastore, 1) := by decide +kernel
theorem eX23_layIf_84 : decode cX23_layIf 84 = .ok (.iload 4, 2) := by decide +kernel
theorem eX23_layIf_86 : decode cX23_layIf 86 = .ok (.ifCond .lt 14, 3) := by decide +kernel
theorem eX23_layIf_89 : decode cX23_layIf 89 = .ok (.aload_n 0, 1) := by decide +kernel
theorem eX23_layIf_90 : decode cX23_layIf 90 = .ok (.getfield 635, 3) := by decide +kernel
theorem eX23_layIf_93 : decode cX23_layIf 93 = .ok (.iload 4, 2) := by decide +kernel
theorem eX23_layIf_95 : decode cX23_layIf 95 = .ok (.aload_n 0, 1) := by decide +kernel
theorem eX23_layIf_96 : decode cX23_layIf 96 = .ok (.getfield 622, 3) := by decide +kernel
theorem eX23_layIf_99 : decode cX23_layIf 99 = .ok (.iastore, 1) := by decide +kernel
theorem eX23_layIf_100 : decode cX23_layIf 100 = .ok (.iinc 3 1, 3) := by decide +kernel
theorem eX23_layIf_103 : decode cX23_layIf 103 = .ok (.goto (-94), 3) := by decide +kernel
theorem eX23_layIf_106 : decode cX23_layIf 106 = .ok (.iconst 0, 1) := by decide +kernel
theorem eX23_layIf_107 : decode cX23_layIf 107 = .ok (.istore_n 3, 1) := by decide +kernel
theorem eX23_layIf_108 : decode cX23_layIf 108 = .ok (.iload_n 3, 1) := by decide +kernel
theorem eX23_layIf_109 : decode cX23_layIf 109 = .ok (.aload_n 1, 1) := by decide +kernel
theorem eX23_layIf_110 : decode cX23_layIf 110 = .ok (.getfield 305, 3) := by decide +kernel
theorem eX23_layIf_113 : decode cX23_layIf 113 = .ok (.if_icmp .ge 21, 3) := by decide +kernel
theorem eX23_layIf_116 : decode cX23_layIf 116 = .ok (.aload_n 0, 1) := by decide +kernel
theorem eX23_layIf_117 : decode cX23_layIf 117 = .ok (.getfield 635, 3) := by decide +kernel
theorem eX23_layIf_120 : decode cX23_layIf 120 = .ok (.aload_n 2, 1) := by decide +kernel
theorem eX23_layIf_121 : decode cX23_layIf 121 = .ok (.iload_n 3, 1) := by decide +kernel
theorem eX23_layIf_122 : decode cX23_layIf 122 = .ok (.iaload, 1) := by decide +kernel
theorem eX23_layIf_123 : decode cX23_layIf 123 = .ok (.aload_n 0, 1) := by decide +kernel
theorem eX23_layIf_124 : decode cX23_layIf 124 = .ok (.getfield 622, 3) := by decide +kernel
theorem eX23_layIf_127 : decode cX23_layIf 127 = .ok (.iastore, 1) := by decide +kernel
theorem eX23_layIf_128 : decode cX23_layIf 128 = .ok (.iinc 3 1, 3) := by decide +kernel
theorem eX23_layIf_131 : decode cX23_layIf 131 = .ok (.goto (-23), 3) := by decide +kernel
theorem eX23_layIf_134 : decode cX23_layIf 134 = .ok (.return_, 1) := by decide +kernel
theorem eX23_lay_0 : decode cX23_lay 0 = .ok (.aload_n 0, 1) := by decide +kernel
theorem eX23_lay_1 : decode cX23_lay 1 = .ok (.iconst 0, 1) := by decide +kernel
theorem eX23_lay_2 : decode cX23_lay 2 = .ok (.aload_n 1, 1) := by decide +kernel
theorem eX23_lay_3 : decode cX23_lay 3 = .ok (.getfield 255, 3) := by decide +kernel
theorem eX23_lay_6 : decode cX23_lay 6 = .ok (.invokevirtual 708, 3) := by decide +kernel
theorem eX23_lay_9 : decode cX23_lay 9 = .ok (.pop, 1) := by decide +kernel
theorem eX23_lay_10 : decode cX23_lay 10 = .ok (.aload_n 1, 1) := by decide +kernel
theorem eX23_lay_11 : decode cX23_lay 11 = .ok (.getfield 263, 3) := by decide +kernel
theorem eX23_lay_14 : decode cX23_lay 14 = .ok (.tableswitch 188 0 7 #[46, 54, 105, 113, 121, 129, 137, 145], 46) := by decide +kernel
theorem eX23_lay_60 : decode cX23_lay 60 = .ok (.aload_n 0, 1) := by decide +kernel
theorem eX23_lay_61 : decode cX23_lay 61 = .ok (.aload_n 1, 1) := by decide +kernel
theorem eX23_lay_62 : decode cX23_lay 62 = .ok (.invokevirtual 775, 3) := by decide +kernel
theorem eX23_lay_65 : decode cX23_lay 65 = .ok (.goto 145, 3) := by decide +kernel
theorem eX23_lay_68 : decode cX23_lay 68 = .ok (.aload_n 0, 1) := by decide +kernel
theorem eX23_lay_69 : decode cX23_lay 69 = .ok (.getfield 698, 3) := by decide +kernel
theorem eX23_lay_72 : decode cX23_lay 72 = .ok (.istore_n 2, 1) := by decide +kernel
theorem eX23_lay_73 : decode cX23_lay 73 = .ok (.aload_n 0, 1) := by decide +kernel
theorem eX23_lay_74 : decode cX23_lay 74 = .ok (.aload_n 1, 1) := by decide +kernel
theorem eX23_lay_75 : decode cX23_lay 75 = .ok (.getfield 268, 3) := by decide +kernel
theorem eX23_lay_78 : decode cX23_lay 78 = .ok (.invokevirtual 739, 3) := by decide +kernel
theorem eX23_lay_81 : decode cX23_lay 81 = .ok (.aload_n 0, 1) := by decide +kernel
theorem eX23_lay_82 : decode cX23_lay 82 = .ok (.getfield 698, 3) := by decide +kernel
theorem eX23_lay_85 : decode cX23_lay 85 = .ok (.iload_n 2, 1) := by decide +kernel
theorem eX23_lay_86 : decode cX23_lay 86 = .ok (.if_icmp .le 25, 3) := by decide +kernel
theorem eX23_lay_89 : decode cX23_lay 89 = .ok (.aload_n 0, 1) := by decide +kernel
theorem eX23_lay_90 : decode cX23_lay 90 = .ok (.getfield 660, 3) := by decide +kernel
theorem eX23_lay_93 : decode cX23_lay 93 = .ok (.aload_n 0, 1) := by decide +kernel
theorem eX23_lay_94 : decode cX23_lay 94 = .ok (.bipush 11, 2) := by decide +kernel
theorem eX23_lay_96 : decode cX23_lay 96 = .ok (.aload_n 1, 1) := by decide +kernel
theorem eX23_lay_97 : decode cX23_lay 97 = .ok (.getfield 255, 3) := by decide +kernel
theorem eX23_lay_100 : decode cX23_lay 100 = .ok (.invokevirtual 708, 3) := by decide +kernel
theorem eX23_lay_103 : decode cX23_lay 103 = .ok (.aload_n 1, 1) := by decide +kernel
theorem eX23_lay_104 : decode cX23_lay 104 = .ok (.getfield 268, 3) := by decide +kernel
theorem eX23_lay_107 : decode cX23_lay 107 = .ok (.getfield 484, 3) := by decide +kernel
theorem eX23_lay_110 : decode cX23_lay 110 = .ok (.aastore, 1) := by decide +kernel
theorem eX23_lay_111 : decode cX23_lay 111 = .ok (.aload_n 0, 1) := by decide +kernel
theorem eX23_lay_112 : decode cX23_lay 112 = .ok (.iload_n 2, 1) := by decide +kernel
theorem eX23_lay_113 : decode cX23_lay 113 = .ok (.putfield 698, 3) := by decide +kernel
theorem eX23_lay_116 : decode cX23_lay 116 = .ok (.goto 94, 3) := by decide +kernel
theorem eX23_lay_119 : decode cX23_lay 119 = .ok (.aload_n 0, 1) := by decide +kernel
theorem eX23_lay_120 : decode cX23_lay 120 = .ok (.aload_n 1, 1) := by decide +kernel
theorem eX23_lay_121 : decode cX23_lay 121 = .ok (.invokevirtual 778, 3) := by decide +kernel
theorem eX23_lay_124 : decode cX23_lay 124 = .ok (.goto 86, 3) := by decide +kernel
theorem eX23_lay_127 : decode cX23_lay 127 = .ok (.aload_n 0, 1) := by decide +kernel
theorem eX23_lay_128 : decode cX23_lay 128 = .ok (.aload_n 1, 1) := by decide +kernel
theorem eX23_lay_129 : decode cX23_lay 129 = .ok (.invokevirtual 781, 3) := by decide +kernel
theorem eX23_lay_132 : decode cX23_lay 132 = .ok (.goto 78, 3) := by decide +kernel
theorem eX23_lay_135 : decode cX23_lay 135 = .ok (.aload_n 0, 1) := by decide +kernel
theorem eX23_lay_136 : decode cX23_lay 136 = .ok (.aload_n 1, 1) := by decide +kernel
theorem eX23_lay_137 : decode cX23_lay 137 = .ok (.invokevirtual 784, 3) := by decide +kernel
theorem eX23_lay_140 : decode cX23_lay 140 = .ok (.goto 70, 3) := by decide +kernel
theorem eX23_lay_143 : decode cX23_lay 143 = .ok (.aload_n 0, 1) := by decide +kernel
theorem eX23_lay_144 : decode cX23_lay 144 = .ok (.aload_n 1, 1) := by decide +kernel
theorem eX23_lay_145 : decode cX23_lay 145 = .ok (.invokevirtual 787, 3) := by decide +kernel
theorem eX23_lay_148 : decode cX23_lay 148 = .ok (.goto 62, 3) := by decide +kernel
theorem eX23_lay_151 : decode cX23_lay 151 = .ok (.aload_n 0, 1) := by decide +kernel
theorem eX23_lay_152 : decode cX23_lay 152 = .ok (.aload_n 1, 1) := by decide +kernel
theorem eX23_lay_153 : decode cX23_lay 153 = .ok (.invokevirtual 790, 3) := by decide +kernel
theorem eX23_lay_156 : decode cX23_lay 156 = .ok (.goto 54, 3) := by decide +kernel
theorem eX23_lay_159 : decode cX23_lay 159 = .ok (.aload_n 0, 1) := by decide +kernel
theorem eX23_lay_160 : decode cX23_lay 160 = .ok (.aload_n 1, 1) := by decide +kernel
theorem eX23_lay_161 : decode cX23_lay 161 = .ok (.getfield 268, 3) := by decide +kernel
theorem eX23_lay_164 : decode cX23_lay 164 = .ok (.invokevirtual 739, 3) := by decide +kernel
theorem eX23_lay_167 : decode cX23_lay 167 = .ok (.aload_n 0, 1) := by decide +kernel
theorem eX23_lay_168 : decode cX23_lay 168 = .ok (.dup, 1) := by decide +kernel
theorem eX23_lay_169 : decode cX23_lay 169 = .ok (.getfield 698, 3) := by decide +kernel
theorem eX23_lay_172 : decode cX23_lay 172 = .ok (.iconst 1, 1) := by decide +kernel
theorem eX23_lay_173 : decode cX23_lay 173 = .ok (.isub, 1) := by decide +kernel
theorem eX23_lay_174 : decode cX23_lay 174 = .ok (.putfield 698, 3) := by decide +kernel
theorem eX23_lay_177 : decode cX23_lay 177 = .ok (.aload_n 0, 1) := by decide +kernel
theorem eX23_lay_178 : decode cX23_lay 178 = .ok (.getfield 660, 3) := by decide +kernel
theorem eX23_lay_181 : decode cX23_lay 181 = .ok (.aload_n 0, 1) := by decide +kernel
theorem eX23_lay_182 : decode cX23_lay 182 = .ok (.bipush 15, 2) := by decide +kernel
theorem eX23_lay_184 : decode cX23_lay 184 = .ok (.aload_n 1, 1) := by decide +kernel
theorem eX23_lay_185 : decode cX23_lay 185 = .ok (.getfield 255, 3) := by decide +kernel
theorem eX23_lay_188 : decode cX23_lay 188 = .ok (.invokevirtual 708, 3) := by decide +kernel
theorem eX23_lay_191 : decode cX23_lay 191 = .ok (.aload_n 1, 1) := by decide +kernel
theorem eX23_lay_192 : decode cX23_lay 192 = .ok (.getfield 268, 3) := by decide +kernel
theorem eX23_lay_195 : decode cX23_lay 195 = .ok (.getfield 484, 3) := by decide +kernel
theorem eX23_lay_198 : decode cX23_lay 198 = .ok (.aastore, 1) := by decide +kernel
theorem eX23_lay_199 : decode cX23_lay 199 = .ok (.goto 11, 3) := by decide +kernel
theorem eX23_lay_202 : decode cX23_lay 202 = .ok (.aload_n 0, 1) := by decide +kernel
theorem eX23_lay_203 : decode cX23_lay 203 = .ok (.aload_n 1, 1) := by decide +kernel
theorem eX23_lay_204 : decode cX23_lay 204 = .ok (.getfield 271, 3) := by decide +kernel
theorem eX23_lay_207 : decode cX23_lay 207 = .ok (.invokevirtual 793, 3) := by decide +kernel
theorem eX23_lay_210 : decode cX23_lay 210 = .ok (.return_, 1) := by decide +kernel
theorem eX23_layBlock_0 : decode cX23_layBlock 0 = .ok (.aload_n 0, 1) := by decide +kernel
theorem eX23_layBlock_1 : decode cX23_layBlock 1 = .ok (.getfield 766, 3) := by decide +kernel
theorem eX23_layBlock_4 : decode cX23_layBlock 4 = .ok (.istore_n 2, 1) := by decide +kernel
theorem eX23_layBlock_5 : decode cX23_layBlock 5 = .ok (.iconst 0, 1) := by decide +kernel
theorem eX23_layBlock_6 : decode cX23_layBlock 6 = .ok (.istore_n 3, 1) := by decide +kernel
theorem eX23_layBlock_7 : decode cX23_layBlock 7 = .ok (.iload_n 3, 1) := by decide +kernel
theorem eX23_layBlock_8 : decode cX23_layBlock 8 = .ok (.aload_n 1, 1) := by decide +kernel
theorem eX23_layBlock_9 : decode cX23_layBlock 9 = .ok (.getfield 244, 3) := by decide +kernel
theorem eX23_layBlock_12 : decode cX23_layBlock 12 = .ok (.if_icmp .ge 19, 3) := by decide +kernel
theorem eX23_layBlock_15 : decode cX23_layBlock 15 = .ok (.aload_n 0, 1) := by decide +kernel
theorem eX23_layBlock_16 : decode cX23_layBlock 16 = .ok (.aload_n 1, 1) := by decide +kernel
theorem eX23_layBlock_17 : decode cX23_layBlock 17 = .ok (.getfield 245, 3) := by decide +kernel
theorem eX23_layBlock_20 : decode cX23_layBlock 20 = .ok (.iload_n 3, 1) := by decide +kernel
theorem eX23_layBlock_21 : decode cX23_layBlock 21 = .ok (.aaload, 1) := by decide +kernel
theorem eX23_layBlock_22 : decode cX23_layBlock 22 = .ok (.invokevirtual 769, 3) := by decide +kernel
theorem eX23_layBlock_25 : decode cX23_layBlock 25 = .ok (.iinc 3 1, 3) := by decide +kernel
theorem eX23_layBlock_28 : decode cX23_layBlock 28 = .ok (.goto (-21), 3) := by decide +kernel
theorem eX23_layBlock_31 : decode cX23_layBlock 31 = .ok (.aload_n 0, 1) := by decide +kernel
theorem eX23_layBlock_32 : decode cX23_layBlock 32 = .ok (.iload_n 2, 1) := by decide +kernel
theorem eX23_layBlock_33 : decode cX23_layBlock 33 = .ok (.aload_n 1, 1) := by decide +kernel
theorem eX23_layBlock_34 : decode cX23_layBlock 34 = .ok (.getfield 251, 3) := by decide +kernel
theorem eX23_layBlock_37 : decode cX23_layBlock 37 = .ok (.invokevirtual 772, 3) := by decide +kernel
theorem eX23_layBlock_40 : decode cX23_layBlock 40 = .ok (.aload_n 0, 1) := by decide +kernel
theorem eX23_layBlock_41 : decode cX23_layBlock 41 = .ok (.iload_n 2, 1) := by decide +kernel
theorem eX23_layBlock_42 : decode cX23_layBlock 42 = .ok (.putfield 766, 3) := by decide +kernel
theorem eX23_layBlock_45 : decode cX23_layBlock 45 = .ok (.return_, 1) := by decide +kernel
theorem eX23_layFunction_0 : decode cX23_layFunction 0 = .ok (.aload_n 0, 1) := by decide +kernel
theorem eX23_layFunction_1 : decode cX23_layFunction 1 = .ok (.getfield 232, 3) := by decide +kernel
theorem eX23_layFunction_4 : decode cX23_layFunction 4 = .ok (.iload_n 1, 1) := by decide +kernel
theorem eX23_layFunction_5 : decode cX23_layFunction 5 = .ok (.aaload, 1) := by decide +kernel
theorem eX23_layFunction_6 : decode cX23_layFunction 6 = .ok (.astore_n 2, 1) := by decide +kernel
theorem eX23_layFunction_7 : decode cX23_layFunction 7 = .ok (.aload_n 2, 1) := by decide +kernel
theorem eX23_layFunction_8 : decode cX23_layFunction 8 = .ok (.aload_n 0, 1) := by decide +kernel
theorem eX23_layFunction_9 : decode cX23_layFunction 9 = .ok (.getfield 622, 3) := by decide +kernel
theorem eX23_layFunction_12 : decode cX23_layFunction 12 = .ok (.putfield 807, 3) := by decide +kernel
theorem eX23_layFunction_15 : decode cX23_layFunction 15 = .ok (.aload_n 0, 1) := by decide +kernel
theorem eX23_layFunction_16 : decode cX23_layFunction 16 = .ok (.iconst 0, 1) := by decide +kernel
theorem eX23_layFunction_17 : decode cX23_layFunction 17 = .ok (.putfield 723, 3) := by decide +kernel
theorem eX23_layFunction_20 : decode cX23_layFunction 20 = .ok (.aload_n 0, 1) := by decide +kernel
theorem eX23_layFunction_21 : decode cX23_layFunction 21 = .ok (.iconst 0, 1) := by decide +kernel
theorem eX23_layFunction_22 : decode cX23_layFunction 22 = .ok (.putfield 698, 3) := by decide +kernel
theorem eX23_layFunction_25 : decode cX23_layFunction 25 = .ok (.aload_n 0, 1) := by decide +kernel
theorem eX23_layFunction_26 : decode cX23_layFunction 26 = .ok (.iconst 0, 1) := by decide +kernel
theorem eX23_layFunction_27 : decode cX23_layFunction 27 = .ok (.putfield 766, 3) := by decide +kernel
theorem eX23_layFunction_30 : decode cX23_layFunction 30 = .ok (.iconst 0, 1) := by decide +kernel
theorem eX23_layFunction_31 : decode cX23_layFunction 31 = .ok (.istore_n 3, 1) := by decide +kernel
theorem eX23_layFunction_32 : decode cX23_layFunction 32 = .ok (.iload_n 3, 1) := by decide +kernel
theorem eX23_layFunction_33 : decode cX23_layFunction 33 = .ok (.aload_n 2, 1) := by decide +kernel
theorem eX23_layFunction_34 : decode cX23_layFunction 34 = .ok (.getfield 139, 3) := by decide +kernel
theorem eX23_layFunction_37 : decode cX23_layFunction 37 = .ok (.if_icmp .ge 68, 3) := by decide +kernel
theorem eX23_layFunction_40 : decode cX23_layFunction 40 = .ok (.aload_n 0, 1) := by decide +kernel
theorem eX23_layFunction_41 : decode cX23_layFunction 41 = .ok (.aload_n 2, 1) := by decide +kernel
theorem eX23_layFunction_42 : decode cX23_layFunction 42 = .ok (.getfield 194, 3) := by decide +kernel
theorem eX23_layFunction_45 : decode cX23_layFunction 45 = .ok (.iload_n 3, 1) := by decide +kernel
theorem eX23_layFunction_46 : decode cX23_layFunction 46 = .ok (.aaload, 1) := by decide +kernel
theorem eX23_layFunction_47 : decode cX23_layFunction 47 = .ok (.invokevirtual 799, 3) := by decide +kernel
theorem eX23_layFunction_50 : decode cX23_layFunction 50 = .ok (.aload_n 2, 1) := by decide +kernel
theorem eX23_layFunction_51 : decode cX23_layFunction 51 = .ok (.getfield 175, 3) := by decide +kernel
theorem eX23_layFunction_54 : decode cX23_layFunction 54 = .ok (.iload_n 3, 1) := by decide +kernel
theorem eX23_layFunction_55 : decode cX23_layFunction 55 = .ok (.aaload, 1) := by decide +kernel
theorem eX23_layFunction_56 : decode cX23_layFunction 56 = .ok (.invokestatic 503, 3) := by decide +kernel
theorem eX23_layFunction_59 : decode cX23_layFunction 59 = .ok (.ifCond .eq 40, 3) := by decide +kernel
theorem eX23_layFunction_62 : decode cX23_layFunction 62 = .ok (.aload_n 0, 1) := by decide +kernel
theorem eX23_layFunction_63 : decode cX23_layFunction 63 = .ok (.aconst_null, 1) := by decide +kernel
theorem eX23_layFunction_64 : decode cX23_layFunction 64 = .ok (.iconst 1, 1) := by decide +kernel
theorem eX23_layFunction_65 : decode cX23_layFunction 65 = .ok (.invokevirtual 732, 3) := by decide +kernel
theorem eX23_layFunction_68 : decode cX23_layFunction 68 = .ok (.istore 4, 2) := by decide +kernel
theorem eX23_layFunction_70 : decode cX23_layFunction 70 = .ok (.aload_n 0, 1) := by decide +kernel
theorem eX23_layFunction_71 : decode cX23_layFunction 71 = .ok (.getfield 729, 3) := by decide +kernel
theorem eX23_layFunction_74 : decode cX23_layFunction 74 = .ok (.iload 4, 2) := by decide +kernel
theorem eX23_layFunction_76 : decode cX23_layFunction 76 = .ok (.aload_n 2, 1) := by decide +kernel
theorem eX23_layFunction_77 : decode cX23_layFunction 77 = .ok (.getfield 194, 3) := by decide +kernel
theorem eX23_layFunction_80 : decode cX23_layFunction 80 = .ok (.iload_n 3, 1) := by decide +kernel
theorem eX23_layFunction_81 : decode cX23_layFunction 81 = .ok (.aaload, 1) := by decide +kernel
theorem eX23_layFunction_82 : decode cX23_layFunction 82 = .ok (.getfield 469, 3) := by decide +kernel
theorem eX23_layFunction_85 : decode cX23_layFunction 85 = .ok (.iastore, 1) := by decide +kernel
theorem eX23_layFunction_86 : decode cX23_layFunction 86 = .ok (.aload_n 0, 1) := by decide +kernel
theorem eX23_layFunction_87 : decode cX23_layFunction 87 = .ok (.getfield 810, 3) := by decide +kernel
theorem eX23_layFunction_90 : decode cX23_layFunction 90 = .ok (.iload 4, 2) := by decide +kernel
theorem eX23_layFunction_92 : decode cX23_layFunction 92 = .ok (.aload_n 2, 1) := by decide +kernel
theorem eX23_layFunction_93 : decode cX23_layFunction 93 = .ok (.getfield 198, 3) := by decide +kernel
theorem eX23_layFunction_96 : decode cX23_layFunction 96 = .ok (.iload_n 3, 1) := by decide +kernel
theorem eX23_layFunction_97 : decode cX23_layFunction 97 = .ok (.iaload, 1) := by decide +kernel
theorem eX23_layFunction_98 : decode cX23_layFunction 98 = .ok (.iastore, 1) := by decide +kernel
theorem eX23_layFunction_99 : decode cX23_layFunction 99 = .ok (.iinc 3 1, 3) := by decide +kernel
theorem eX23_layFunction_102 : decode cX23_layFunction 102 = .ok (.goto (-70), 3) := by decide +kernel
theorem eX23_layFunction_105 : decode cX23_layFunction 105 = .ok (.aload_n 0, 1) := by decide +kernel
theorem eX23_layFunction_106 : decode cX23_layFunction 106 = .ok (.aload_n 2, 1) := by decide +kernel
theorem eX23_layFunction_107 : decode cX23_layFunction 107 = .ok (.getfield 217, 3) := by decide +kernel
theorem eX23_layFunction_110 : decode cX23_layFunction 110 = .ok (.invokevirtual 793, 3) := by decide +kernel
theorem eX23_layFunction_113 : decode cX23_layFunction 113 = .ok (.aload_n 0, 1) := by decide +kernel
theorem eX23_layFunction_114 : decode cX23_layFunction 114 = .ok (.iconst 0, 1) := by decide +kernel
theorem eX23_layFunction_115 : decode cX23_layFunction 115 = .ok (.aload_n 2, 1) := by decide +kernel
theorem eX23_layFunction_116 : decode cX23_layFunction 116 = .ok (.getfield 217, 3) := by decide +kernel
theorem eX23_layFunction_119 : decode cX23_layFunction 119 = .ok (.getfield 251, 3) := by decide +kernel
theorem eX23_layFunction_122 : decode cX23_layFunction 122 = .ok (.invokevirtual 772, 3) := by decide +kernel
theorem eX23_layFunction_125 : decode cX23_layFunction 125 = .ok (.aload_n 0, 1) := by decide +kernel
theorem eX23_layFunction_126 : decode cX23_layFunction 126 = .ok (.bipush 26, 2) := by decide +kernel
theorem eX23_layFunction_128 : decode cX23_layFunction 128 = .ok (.aload_n 2, 1) := by decide +kernel
theorem eX23_layFunction_129 : decode cX23_layFunction 129 = .ok (.getfield 217, 3) := by decide +kernel
theorem eX23_layFunction_132 : decode cX23_layFunction 132 = .ok (.getfield 251, 3) := by decide +kernel
theorem eX23_layFunction_135 : decode cX23_layFunction 135 = .ok (.invokevirtual 708, 3) := by decide +kernel
theorem eX23_layFunction_138 : decode cX23_layFunction 138 = .ok (.pop, 1) := by decide +kernel
theorem eX23_layFunction_139 : decode cX23_layFunction 139 = .ok (.aload_n 2, 1) := by decide +kernel
theorem eX23_layFunction_140 : decode cX23_layFunction 140 = .ok (.aload_n 0, 1) := by decide +kernel
theorem eX23_layFunction_141 : decode cX23_layFunction 141 = .ok (.getfield 622, 3) := by decide +kernel
theorem eX23_layFunction_144 : decode cX23_layFunction 144 = .ok (.putfield 813, 3) := by decide +kernel
theorem eX23_layFunction_147 : decode cX23_layFunction 147 = .ok (.return_, 1) := by decide +kernel
theorem eX23_follows_0 : decode cX23_follows 0 = .ok (.aload_n 0, 1) := by decide +kernel
theorem eX23_follows_1 : decode cX23_follows 1 = .ok (.getfield 625, 3) := by decide +kernel
theorem eX23_follows_4 : decode cX23_follows 4 = .ok (.iload_n 1, 1) := by decide +kernel
theorem eX23_follows_5 : decode cX23_follows 5 = .ok (.iaload, 1) := by decide +kernel
theorem eX23_follows_6 : decode cX23_follows 6 = .ok (.bipush 26, 2) := by decide +kernel
theorem eX23_follows_8 : decode cX23_follows 8 = .ok (.if_icmp .ne 5, 3) := by decide +kernel
theorem eX23_follows_11 : decode cX23_follows 11 = .ok (.iconst (-1), 1) := by decide +kernel
theorem eX23_follows_12 : decode cX23_follows 12 = .ok (.ireturn, 1) := by decide +kernel
theorem eX23_follows_13 : decode cX23_follows 13 = .ok (.aload_n 0, 1) := by decide +kernel
theorem eX23_follows_14 : decode cX23_follows 14 = .ok (.getfield 625, 3) := by decide +kernel
theorem eX23_follows_17 : decode cX23_follows 17 = .ok (.iload_n 1, 1) := by decide +kernel
theorem eX23_follows_18 : decode cX23_follows 18 = .ok (.iaload, 1) := by decide +kernel
theorem eX23_follows_19 : decode cX23_follows 19 = .ok (.bipush 16, 2) := by decide +kernel
theorem eX23_follows_21 : decode cX23_follows 21 = .ok (.if_icmp .ne 18, 3) := by decide +kernel
theorem eX23_follows_24 : decode cX23_follows 24 = .ok (.iload_n 2, 1) := by decide +kernel
theorem eX23_follows_25 : decode cX23_follows 25 = .ok (.ifCond .ne 12, 3) := by decide +kernel
theorem eX23_follows_28 : decode cX23_follows 28 = .ok (.aload_n 0, 1) := by decide +kernel
theorem eX23_follows_29 : decode cX23_follows 29 = .ok (.getfield 635, 3) := by decide +kernel
theorem eX23_follows_32 : decode cX23_follows 32 = .ok (.iload_n 1, 1) := by decide +kernel
theorem eX23_follows_33 : decode cX23_follows 33 = .ok (.iaload, 1) := by decide +kernel
theorem eX23_follows_34 : decode cX23_follows 34 = .ok (.goto 4, 3) := by decide +kernel
theorem eX23_follows_37 : decode cX23_follows 37 = .ok (.iconst (-1), 1) := by decide +kernel
theorem eX23_follows_38 : decode cX23_follows 38 = .ok (.ireturn, 1) := by decide +kernel
theorem eX23_follows_39 : decode cX23_follows 39 = .ok (.aload_n 0, 1) := by decide +kernel
theorem eX23_follows_40 : decode cX23_follows 40 = .ok (.getfield 625, 3) := by decide +kernel
theorem eX23_follows_43 : decode cX23_follows 43 = .ok (.iload_n 1, 1) := by decide +kernel
theorem eX23_follows_44 : decode cX23_follows 44 = .ok (.iaload, 1) := by decide +kernel
theorem eX23_follows_45 : decode cX23_follows 45 = .ok (.bipush 20, 2) := by decide +kernel
theorem eX23_follows_47 : decode cX23_follows 47 = .ok (.if_icmp .eq 14, 3) := by decide +kernel
theorem eX23_follows_50 : decode cX23_follows 50 = .ok (.aload_n 0, 1) := by decide +kernel
theorem eX23_follows_51 : decode cX23_follows 51 = .ok (.getfield 625, 3) := by decide +kernel
theorem eX23_follows_54 : decode cX23_follows 54 = .ok (.iload_n 1, 1) := by decide +kernel
theorem eX23_follows_55 : decode cX23_follows 55 = .ok (.iaload, 1) := by decide +kernel
theorem eX23_follows_56 : decode cX23_follows 56 = .ok (.bipush 21, 2) := by decide +kernel
theorem eX23_follows_58 : decode cX23_follows 58 = .ok (.if_icmp .ne 27, 3) := by decide +kernel
theorem eX23_follows_61 : decode cX23_follows 61 = .ok (.iload_n 2, 1) := by decide +kernel
theorem eX23_follows_62 : decode cX23_follows 62 = .ok (.aload_n 0, 1) := by decide +kernel
theorem eX23_follows_63 : decode cX23_follows 63 = .ok (.getfield 668, 3) := by decide +kernel
theorem eX23_follows_66 : decode cX23_follows 66 = .ok (.iload_n 1, 1) := by decide +kernel
theorem eX23_follows_67 : decode cX23_follows 67 = .ok (.aaload, 1) := by decide +kernel
theorem eX23_follows_68 : decode cX23_follows 68 = .ok (.arraylength, 1) := by decide +kernel
theorem eX23_follows_69 : decode cX23_follows 69 = .ok (.if_icmp .ge 14, 3) := by decide +kernel
theorem eX23_follows_72 : decode cX23_follows 72 = .ok (.aload_n 0, 1) := by decide +kernel
theorem eX23_follows_73 : decode cX23_follows 73 = .ok (.getfield 668, 3) := by decide +kernel
theorem eX23_follows_76 : decode cX23_follows 76 = .ok (.iload_n 1, 1) := by decide +kernel
theorem eX23_follows_77 : decode cX23_follows 77 = .ok (.aaload, 1) := by decide +kernel
theorem eX23_follows_78 : decode cX23_follows 78 = .ok (.iload_n 2, 1) := by decide +kernel
theorem eX23_follows_79 : decode cX23_follows 79 = .ok (.iaload, 1) := by decide +kernel
theorem eX23_follows_80 : decode cX23_follows 80 = .ok (.goto 4, 3) := by decide +kernel
theorem eX23_follows_83 : decode cX23_follows 83 = .ok (.iconst (-1), 1) := by decide +kernel
theorem eX23_follows_84 : decode cX23_follows 84 = .ok (.ireturn, 1) := by decide +kernel
theorem eX23_follows_85 : decode cX23_follows 85 = .ok (.iload_n 2, 1) := by decide +kernel
theorem eX23_follows_86 : decode cX23_follows 86 = .ok (.ifCond .ne 7, 3) := by decide +kernel
theorem eX23_follows_89 : decode cX23_follows 89 = .ok (.iload_n 1, 1) := by decide +kernel
theorem eX23_follows_90 : decode cX23_follows 90 = .ok (.iconst 1, 1) := by decide +kernel
theorem eX23_follows_91 : decode cX23_follows 91 = .ok (.iadd, 1) := by decide +kernel
theorem eX23_follows_92 : decode cX23_follows 92 = .ok (.ireturn, 1) := by decide +kernel
theorem eX23_follows_93 : decode cX23_follows 93 = .ok (.iload_n 2, 1) := by decide +kernel
theorem eX23_follows_94 : decode cX23_follows 94 = .ok (.iconst 1, 1) := by decide +kernel
theorem eX23_follows_95 : decode cX23_follows 95 = .ok (.if_icmp .ne 12, 3) := by decide +kernel
theorem eX23_follows_98 : decode cX23_follows 98 = .ok (.aload_n 0, 1) := by decide +kernel
theorem eX23_follows_99 : decode cX23_follows 99 = .ok (.getfield 635, 3) := by decide +kernel
theorem eX23_follows_102 : decode cX23_follows 102 = .ok (.iload_n 1, 1) := by decide +kernel
theorem eX23_follows_103 : decode cX23_follows 103 = .ok (.iaload, 1) := by decide +kernel
theorem eX23_follows_104 : decode cX23_follows 104 = .ok (.goto 4, 3) := by decide +kernel
theorem eX23_follows_107 : decode cX23_follows 107 = .ok (.iconst (-1), 1) := by decide +kernel
theorem eX23_follows_108 : decode cX23_follows 108 = .ok (.ireturn, 1) := by decide +kernel
theorem eX23_reach_0 : decode cX23_reach 0 = .ok (.aload_n 1, 1) := by decide +kernel
theorem eX23_reach_1 : decode cX23_reach 1 = .ok (.getfield 807, 3) := by decide +kernel
theorem eX23_reach_4 : decode cX23_reach 4 = .ok (.istore_n 2, 1) := by decide +kernel
theorem eX23_reach_5 : decode cX23_reach 5 = .ok (.iload_n 2, 1) := by decide +kernel
theorem eX23_reach_6 : decode cX23_reach 6 = .ok (.aload_n 1, 1) := by decide +kernel
theorem eX23_reach_7 : decode cX23_reach 7 = .ok (.getfield 813, 3) := by decide +kernel
theorem eX23_reach_10 : decode cX23_reach 10 = .ok (.if_icmp .ge 28, 3) := by decide +kernel
theorem eX23_reach_13 : decode cX23_reach 13 = .ok (.aload_n 0, 1) := by decide +kernel
theorem eX23_reach_14 : decode cX23_reach 14 = .ok (.getfield 814, 3) := by decide +kernel
theorem eX23_reach_17 : decode cX23_reach 17 = .ok (.iload_n 2, 1) := by decide +kernel
theorem eX23_reach_18 : decode cX23_reach 18 = .ok (.iload_n 2, 1) := by decide +kernel
theorem eX23_reach_19 : decode cX23_reach 19 = .ok (.aload_n 1, 1) := by decide +kernel
theorem eX23_reach_20 : decode cX23_reach 20 = .ok (.getfield 807, 3) := by decide +kernel
theorem eX23_reach_23 : decode cX23_reach 23 = .ok (.if_icmp .ne 7, 3) := by decide +kernel
theorem eX23_reach_26 : decode cX23_reach 26 = .ok (.iconst 1, 1) := by decide +kernel
theorem eX23_reach_27 : decode cX23_reach 27 = .ok (.goto 4, 3) := by decide +kernel
theorem eX23_reach_30 : decode cX23_reach 30 = .ok (.iconst 0, 1) := by decide +kernel
theorem eX23_reach_31 : decode cX23_reach 31 = .ok (.bastore, 1) := by decide +kernel
theorem eX23_reach_32 : decode cX23_reach 32 = .ok (.iinc 2 1, 3) := by decide +kernel
theorem eX23_reach_35 : decode cX23_reach 35 = .ok (.goto (-30), 3) := by decide +kernel
theorem eX23_reach_38 : decode cX23_reach 38 = .ok (.iconst 1, 1) := by decide +kernel
theorem eX23_reach_39 : decode cX23_reach 39 = .ok (.istore_n 2, 1) := by decide +kernel
theorem eX23_reach_40 : decode cX23_reach 40 = .ok (.iload_n 2, 1) := by decide +kernel
theorem eX23_reach_41 : decode cX23_reach 41 = .ok (.ifCond .eq 85, 3) := by decide +kernel
theorem eX23_reach_44 : decode cX23_reach 44 = .ok (.iconst 0, 1) := by decide +kernel
theorem eX23_reach_45 : decode cX23_reach 45 = .ok (.istore_n 2, 1) := by decide +kernel
theorem eX23_reach_46 : decode cX23_reach 46 = .ok (.aload_n 1, 1) := by decide +kernel
theorem eX23_reach_47 : decode cX23_reach 47 = .ok (.getfield 807, 3) := by decide +kernel
theorem eX23_reach_50 : decode cX23_reach 50 = .ok (.istore_n 3, 1) := by decide +kernel
theorem eX23_reach_51 : decode cX23_reach 51 = .ok (.iload_n 3, 1) := by decide +kernel
theorem eX23_reach_52 : decode cX23_reach 52 = .ok (.aload_n 1, 1) := by decide +kernel
theorem eX23_reach_53 : decode cX23_reach 53 = .ok (.getfield 813, 3) := by decide +kernel
theorem eX23_reach_56 : decode cX23_reach 56 = .ok (.if_icmp .ge 67, 3) := by decide +kernel
theorem eX23_reach_59 : decode cX23_reach 59 = .ok (.iconst 0, 1) := by decide +kernel
theorem eX23_reach_60 : decode cX23_reach 60 = .ok (.istore 4, 2) := by decide +kernel
theorem eX23_reach_62 : decode cX23_reach 62 = .ok (.aload_n 0, 1) := by decide +kernel
theorem eX23_reach_63 : decode cX23_reach 63 = .ok (.getfield 814, 3) := by decide +kernel
theorem eX23_reach_66 : decode cX23_reach 66 = .ok (.iload_n 3, 1) := by decide +kernel
theorem eX23_reach_67 : decode cX23_reach 67 = .ok (.baload, 1) := by decide +kernel
theorem eX23_reach_68 : decode cX23_reach 68 = .ok (.ifCond .eq 49, 3) := by decide +kernel
theorem eX23_reach_71 : decode cX23_reach 71 = .ok (.aload_n 0, 1) := by decide +kernel
theorem eX23_reach_72 : decode cX23_reach 72 = .ok (.iload_n 3, 1) := by decide +kernel
theorem eX23_reach_73 : decode cX23_reach 73 = .ok (.iload 4, 2) := by decide +kernel
theorem eX23_reach_75 : decode cX23_reach 75 = .ok (.invokevirtual 817, 3) := by decide +kernel
theorem eX23_reach_78 : decode cX23_reach 78 = .ok (.ifCond .lt 39, 3) := by decide +kernel
theorem eX23_reach_81 : decode cX23_reach 81 = .ok (.aload_n 0, 1) := by decide +kernel
theorem eX23_reach_82 : decode cX23_reach 82 = .ok (.getfield 814, 3) := by decide +kernel
theorem eX23_reach_85 : decode cX23_reach 85 = .ok (.aload_n 0, 1) := by decide +kernel
theorem eX23_reach_86 : decode cX23_reach 86 = .ok (.iload_n 3, 1) := by decide +kernel
theorem eX23_reach_87 : decode cX23_reach 87 = .ok (.iload 4, 2) := by decide +kernel
theorem eX23_reach_89 : decode cX23_reach 89 = .ok (.invokevirtual 817, 3) := by decide +kernel
theorem eX23_reach_92 : decode cX23_reach 92 = .ok (.baload, 1) := by decide +kernel
theorem eX23_reach_93 : decode cX23_reach 93 = .ok (.ifCond .ne 18, 3) := by decide +kernel
theorem eX23_reach_96 : decode cX23_reach 96 = .ok (.aload_n 0, 1) := by decide +kernel
theorem eX23_reach_97 : decode cX23_reach 97 = .ok (.getfield 814, 3) := by decide +kernel
theorem eX23_reach_100 : decode cX23_reach 100 = .ok (.aload_n 0, 1) := by decide +kernel
theorem eX23_reach_101 : decode cX23_reach 101 = .ok (.iload_n 3, 1) := by decide +kernel
theorem eX23_reach_102 : decode cX23_reach 102 = .ok (.iload 4, 2) := by decide +kernel
theorem eX23_reach_104 : decode cX23_reach 104 = .ok (.invokevirtual 817, 3) := by decide +kernel
theorem eX23_reach_107 : decode cX23_reach 107 = .ok (.iconst 1, 1) := by decide +kernel
theorem eX23_reach_108 : decode cX23_reach 108 = .ok (.bastore, 1) := by decide +kernel
theorem eX23_reach_109 : decode cX23_reach 109 = .ok (.iconst 1, 1) := by decide +kernel
theorem eX23_reach_110 : decode cX23_reach 110 = .ok (.istore_n 2, 1) := by decide +kernel
theorem eX23_reach_111 : decode cX23_reach 111 = .ok (.iinc 4 1, 3) := by decide +kernel
theorem eX23_reach_114 : decode cX23_reach 114 = .ok (.goto (-52), 3) := by decide +kernel
theorem eX23_reach_117 : decode cX23_reach 117 = .ok (.iinc 3 1, 3) := by decide +kernel
theorem eX23_reach_120 : decode cX23_reach 120 = .ok (.goto (-69), 3) := by decide +kernel
theorem eX23_reach_123 : decode cX23_reach 123 = .ok (.goto (-83), 3) := by decide +kernel
theorem eX23_reach_126 : decode cX23_reach 126 = .ok (.return_, 1) := by decide +kernel
theorem eX23_partsOf_0 : decode cX23_partsOf 0 = .ok (.aload_n 1, 1) := by decide +kernel
theorem eX23_partsOf_1 : decode cX23_partsOf 1 = .ok (.ifnull 11, 3) := by decide +kernel
theorem eX23_partsOf_4 : decode cX23_partsOf 4 = .ok (.aload_n 1, 1) := by decide +kernel
theorem eX23_partsOf_5 : decode cX23_partsOf 5 = .ok (.getfield 386, 3) := by decide +kernel
theorem eX23_partsOf_8 : decode cX23_partsOf 8 = .ok (.iconst 3, 1) := by decide +kernel
theorem eX23_partsOf_9 : decode cX23_partsOf 9 = .ok (.if_icmp .eq 5, 3) := by decide +kernel
theorem eX23_partsOf_12 : decode cX23_partsOf 12 = .ok (.iconst 1, 1) := by decide +kernel
theorem eX23_partsOf_13 : decode cX23_partsOf 13 = .ok (.ireturn, 1) := by decide +kernel
theorem eX23_partsOf_14 : decode cX23_partsOf 14 = .ok (.iconst 0, 1) := by decide +kernel
theorem eX23_partsOf_15 : decode cX23_partsOf 15 = .ok (.istore_n 2, 1) := by decide +kernel
theorem eX23_partsOf_16 : decode cX23_partsOf 16 = .ok (.aload_n 0, 1) := by decide +kernel
theorem eX23_partsOf_17 : decode cX23_partsOf 17 = .ok (.getfield 232, 3) := by decide +kernel
theorem eX23_partsOf_20 : decode cX23_partsOf 20 = .ok (.aload_n 1, 1) := by decide +kernel
theorem eX23_partsOf_21 : decode cX23_partsOf 21 = .ok (.getfield 387, 3) := by decide +kernel
theorem eX23_partsOf_24 : decode cX23_partsOf 24 = .ok (.aaload, 1) := by decide +kernel
theorem eX23_partsOf_25 : decode cX23_partsOf 25 = .ok (.astore_n 3, 1) := by decide +kernel
theorem eX23_partsOf_26 : decode cX23_partsOf 26 = .ok (.iconst 0, 1) := by decide +kernel
theorem eX23_partsOf_27 : decode cX23_partsOf 27 = .ok (.istore 4, 2) := by decide +kernel
theorem eX23_partsOf_29 : decode cX23_partsOf 29 = .ok (.iload 4, 2) := by decide +kernel
theorem eX23_partsOf_31 : decode cX23_partsOf 31 = .ok (.aload_n 3, 1) := by decide +kernel
theorem eX23_partsOf_32 : decode cX23_partsOf 32 = .ok (.getfield 139, 3) := by decide +kernel
theorem eX23_partsOf_35 : decode cX23_partsOf 35 = .ok (.if_icmp .ge 23, 3) := by decide +kernel
theorem eX23_partsOf_38 : decode cX23_partsOf 38 = .ok (.iload_n 2, 1) := by decide +kernel
theorem eX23_partsOf_39 : decode cX23_partsOf 39 = .ok (.aload_n 0, 1) := by decide +kernel
theorem eX23_partsOf_40 : decode cX23_partsOf 40 = .ok (.aload_n 3, 1) := by decide +kernel
theorem eX23_partsOf_41 : decode cX23_partsOf 41 = .ok (.getfield 175, 3) := by decide +kernel
theorem eX23_partsOf_44 : decode cX23_partsOf 44 = .ok (.iload 4, 2) := by decide +kernel
theorem eX23_partsOf_46 : decode cX23_partsOf 46 = .ok (.aaload, 1) := by decide +kernel
theorem eX23_partsOf_47 : decode cX23_partsOf 47 = .ok (.invokevirtual 820, 3) := by decide +kernel
theorem eX23_partsOf_50 : decode cX23_partsOf 50 = .ok (.iadd, 1) := by decide +kernel
theorem eX23_partsOf_51 : decode cX23_partsOf 51 = .ok (.istore_n 2, 1) := by decide +kernel
theorem eX23_partsOf_52 : decode cX23_partsOf 52 = .ok (.iinc 4 1, 3) := by decide +kernel
theorem eX23_partsOf_55 : decode cX23_partsOf 55 = .ok (.goto (-26), 3) := by decide +kernel
theorem eX23_partsOf_58 : decode cX23_partsOf 58 = .ok (.iload_n 2, 1) := by decide +kernel
theorem eX23_partsOf_59 : decode cX23_partsOf 59 = .ok (.ireturn, 1) := by decide +kernel
theorem eX23_get_0 : decode cX23_get 0 = .ok (.aload_n 0, 1) := by decide +kernel
theorem eX23_get_1 : decode cX23_get 1 = .ok (.iload_n 1, 1) := by decide +kernel
theorem eX23_get_2 : decode cX23_get 2 = .ok (.iload_n 2, 1) := by decide +kernel
theorem eX23_get_3 : decode cX23_get 3 = .ok (.bipush 6, 2) := by decide +kernel
theorem eX23_get_5 : decode cX23_get 5 = .ok (.ishr, 1) := by decide +kernel
theorem eX23_get_6 : decode cX23_get 6 = .ok (.iadd, 1) := by decide +kernel
theorem eX23_get_7 : decode cX23_get 7 = .ok (.laload, 1) := by decide +kernel
theorem eX23_get_8 : decode cX23_get 8 = .ok (.iload_n 2, 1) := by decide +kernel
theorem eX23_get_9 : decode cX23_get 9 = .ok (.bipush 63, 2) := by decide +kernel
theorem eX23_get_11 : decode cX23_get 11 = .ok (.iand, 1) := by decide +kernel
theorem eX23_get_12 : decode cX23_get 12 = .ok (.lushr, 1) := by decide +kernel
theorem eX23_get_13 : decode cX23_get 13 = .ok (.lconst 1, 1) := by decide +kernel
theorem eX23_get_14 : decode cX23_get 14 = .ok (.land, 1) := by decide +kernel
theorem eX23_get_15 : decode cX23_get 15 = .ok (.lconst 1, 1) := by decide +kernel
theorem eX23_get_16 : decode cX23_get 16 = .ok (.lcmp, 1) := by decide +kernel
theorem eX23_get_17 : decode cX23_get 17 = .ok (.ifCond .ne 7, 3) := by decide +kernel
theorem eX23_get_20 : decode cX23_get 20 = .ok (.iconst 1, 1) := by decide +kernel
theorem eX23_get_21 : decode cX23_get 21 = .ok (.goto 4, 3) := by decide +kernel
theorem eX23_get_24 : decode cX23_get 24 = .ok (.iconst 0, 1) := by decide +kernel
theorem eX23_get_25 : decode cX23_get 25 = .ok (.ireturn, 1) := by decide +kernel
theorem eX23_put_0 : decode cX23_put 0 = .ok (.lconst 1, 1) := by decide +kernel
theorem eX23_put_1 : decode cX23_put 1 = .ok (.iload_n 2, 1) := by decide +kernel
theorem eX23_put_2 : decode cX23_put 2 = .ok (.bipush 63, 2) := by decide +kernel
theorem eX23_put_4 : decode cX23_put 4 = .ok (.iand, 1) := by decide +kernel
theorem eX23_put_5 : decode cX23_put 5 = .ok (.lshl, 1) := by decide +kernel
theorem eX23_put_6 : decode cX23_put 6 = .ok (.lstore 4, 2) := by decide +kernel
theorem eX23_put_8 : decode cX23_put 8 = .ok (.aload_n 0, 1) := by decide +kernel
theorem eX23_put_9 : decode cX23_put 9 = .ok (.iload_n 1, 1) := by decide +kernel
theorem eX23_put_10 : decode cX23_put 10 = .ok (.iload_n 2, 1) := by decide +kernel
theorem eX23_put_11 : decode cX23_put 11 = .ok (.bipush 6, 2) := by decide +kernel
theorem eX23_put_13 : decode cX23_put 13 = .ok (.ishr, 1) := by decide +kernel
theorem eX23_put_14 : decode cX23_put 14 = .ok (.iadd, 1) := by decide +kernel
theorem eX23_put_15 : decode cX23_put 15 = .ok (.iload_n 3, 1) := by decide +kernel
theorem eX23_put_16 : decode cX23_put 16 = .ok (.ifCond .eq 17, 3) := by decide +kernel
theorem eX23_put_19 : decode cX23_put 19 = .ok (.aload_n 0, 1) := by decide +kernel
theorem eX23_put_20 : decode cX23_put 20 = .ok (.iload_n 1, 1) := by decide +kernel
theorem eX23_put_21 : decode cX23_put 21 = .ok (.iload_n 2, 1) := by decide +kernel
theorem eX23_put_22 : decode cX23_put 22 = .ok (.bipush 6, 2) := by decide +kernel
theorem eX23_put_24 : decode cX23_put 24 = .ok (.ishr, 1) := by decide +kernel
theorem eX23_put_25 : decode cX23_put 25 = .ok (.iadd, 1) := by decide +kernel
theorem eX23_put_26 : decode cX23_put 26 = .ok (.laload, 1) := by decide +kernel
theorem eX23_put_27 : decode cX23_put 27 = .ok (.lload 4, 2) := by decide +kernel
theorem eX23_put_29 : decode cX23_put 29 = .ok (.lor, 1) := by decide +kernel
theorem eX23_put_30 : decode cX23_put 30 = .ok (.goto 18, 3) := by decide +kernel
theorem eX23_put_33 : decode cX23_put 33 = .ok (.aload_n 0, 1) := by decide +kernel
theorem eX23_put_34 : decode cX23_put 34 = .ok (.iload_n 1, 1) := by decide +kernel
theorem eX23_put_35 : decode cX23_put 35 = .ok (.iload_n 2, 1) := by decide +kernel
theorem eX23_put_36 : decode cX23_put 36 = .ok (.bipush 6, 2) := by decide +kernel
theorem eX23_put_38 : decode cX23_put 38 = .ok (.ishr, 1) := by decide +kernel
theorem eX23_put_39 : decode cX23_put 39 = .ok (.iadd, 1) := by decide +kernel
theorem eX23_put_40 : decode cX23_put 40 = .ok (.laload, 1) := by decide +kernel
theorem eX23_put_41 : decode cX23_put 41 = .ok (.lload 4, 2) := by decide +kernel
theorem eX23_put_43 : decode cX23_put 43 = .ok (.ldc2_w 823, 3) := by decide +kernel
theorem eX23_put_46 : decode cX23_put 46 = .ok (.lxor, 1) := by decide +kernel
theorem eX23_put_47 : decode cX23_put 47 = .ok (.land, 1) := by decide +kernel
theorem eX23_put_48 : decode cX23_put 48 = .ok (.lastore, 1) := by decide +kernel
theorem eX23_put_49 : decode cX23_put 49 = .ok (.return_, 1) := by decide +kernel
theorem eX23_partFrom_0 : decode cX23_partFrom 0 = .ok (.bipush 16, 2) := by decide +kernel
theorem eX23_partFrom_2 : decode cX23_partFrom 2 = .ok (.aload_n 1, 1) := by decide +kernel
theorem eX23_partFrom_3 : decode cX23_partFrom 3 = .ok (.getfield 682, 3) := by decide +kernel
theorem eX23_partFrom_6 : decode cX23_partFrom 6 = .ok (.getfield 469, 3) := by decide +kernel
theorem eX23_partFrom_9 : decode cX23_partFrom 9 = .ok (.imul, 1) := by decide +kernel
theorem eX23_partFrom_10 : decode cX23_partFrom 10 = .ok (.istore_n 2, 1) := by decide +kernel
theorem eX23_partFrom_11 : decode cX23_partFrom 11 = .ok (.aload_n 1, 1) := by decide +kernel
theorem eX23_partFrom_12 : decode cX23_partFrom 12 = .ok (.getfield 683, 3) := by decide +kernel
theorem eX23_partFrom_15 : decode cX23_partFrom 15 = .ok (.iconst 0, 1) := by decide +kernel
theorem eX23_partFrom_16 : decode cX23_partFrom 16 = .ok (.aaload, 1) := by decide +kernel
theorem eX23_partFrom_17 : decode cX23_partFrom 17 = .ok (.astore_n 3, 1) := by decide +kernel
theorem eX23_partFrom_18 : decode cX23_partFrom 18 = .ok (.iconst 0, 1) := by decide +kernel
theorem eX23_partFrom_19 : decode cX23_partFrom 19 = .ok (.istore 4, 2) := by decide +kernel
theorem eX23_partFrom_21 : decode cX23_partFrom 21 = .ok (.iload 4, 2) := by decide +kernel
theorem eX23_partFrom_23 : decode cX23_partFrom 23 = .ok (.aload_n 1, 1) := by decide +kernel
theorem eX23_partFrom_24 : decode cX23_partFrom 24 = .ok (.getfield 711, 3) := by decide +kernel
theorem eX23_partFrom_27 : decode cX23_partFrom 27 = .ok (.if_icmp .ge 89, 3) := by decide +kernel
theorem eX23_partFrom_30 : decode cX23_partFrom 30 = .ok (.aload_n 1, 1) := by decide +kernel
theorem eX23_partFrom_31 : decode cX23_partFrom 31 = .ok (.getfield 688, 3) := by decide +kernel
theorem eX23_partFrom_34 : decode cX23_partFrom 34 = .ok (.iload 4, 2) := by decide +kernel
theorem eX23_partFrom_36 : decode cX23_partFrom 36 = .ok (.iaload, 1) := by decide +kernel
theorem eX23_partFrom_37 : decode cX23_partFrom 37 = .ok (.ifCond .lt 79, 3) := by decide +kernel
theorem eX23_partFrom_40 : decode cX23_partFrom 40 = .ok (.aload_n 1, 1) := by decide +kernel
theorem eX23_partFrom_41 : decode cX23_partFrom 41 = .ok (.getfield 688, 3) := by decide +kernel
theorem eX23_partFrom_44 : decode cX23_partFrom 44 = .ok (.iload 4, 2) := by decide +kernel
theorem eX23_partFrom_46 : decode cX23_partFrom 46 = .ok (.iaload, 1) := by decide +kernel
theorem eX23_partFrom_47 : decode cX23_partFrom 47 = .ok (.sipush 1000, 3) := by decide +kernel
theorem eX23_partFrom_50 : decode cX23_partFrom 50 = .ok (.if_icmp .ge 66, 3) := by decide +kernel
theorem eX23_partFrom_53 : decode cX23_partFrom 53 = .ok (.aload_n 0, 1) := by decide +kernel
theorem eX23_partFrom_54 : decode cX23_partFrom 54 = .ok (.getfield 232, 3) := by decide +kernel
theorem eX23_partFrom_57 : decode cX23_partFrom 57 = .ok (.aload_n 3, 1) := by decide +kernel
theorem eX23_partFrom_58 : decode cX23_partFrom 58 = .ok (.getfield 387, 3) := by decide +kernel
theorem eX23_partFrom_61 : decode cX23_partFrom 61 = .ok (.aaload, 1) := by decide +kernel
theorem eX23_partFrom_62 : decode cX23_partFrom 62 = .ok (.astore 5, 2) := by decide +kernel
theorem eX23_partFrom_64 : decode cX23_partFrom 64 = .ok (.iconst 0, 1) := by decide +kernel
theorem eX23_partFrom_65 : decode cX23_partFrom 65 = .ok (.istore 6, 2) := by decide +kernel
theorem eX23_partFrom_67 : decode cX23_partFrom 67 = .ok (.iload 6, 2) := by decide +kernel
theorem eX23_partFrom_69 : decode cX23_partFrom 69 = .ok (.aload_n 1, 1) := by decide +kernel
theorem eX23_partFrom_70 : decode cX23_partFrom 70 = .ok (.getfield 688, 3) := by decide +kernel
theorem eX23_partFrom_73 : decode cX23_partFrom 73 = .ok (.iload 4, 2) := by decide +kernel
theorem eX23_partFrom_75 : decode cX23_partFrom 75 = .ok (.iaload, 1) := by decide +kernel
theorem eX23_partFrom_76 : decode cX23_partFrom 76 = .ok (.if_icmp .ge 24, 3) := by decide +kernel
theorem eX23_partFrom_79 : decode cX23_partFrom 79 = .ok (.iload_n 2, 1) := by decide +kernel
theorem eX23_partFrom_80 : decode cX23_partFrom 80 = .ok (.aload_n 0, 1) := by decide +kernel
theorem eX23_partFrom_81 : decode cX23_partFrom 81 = .ok (.aload 5, 2) := by decide +kernel
theorem eX23_partFrom_83 : decode cX23_partFrom 83 = .ok (.getfield 175, 3) := by decide +kernel
theorem eX23_partFrom_86 : decode cX23_partFrom 86 = .ok (.iload 6, 2) := by decide +kernel
theorem eX23_partFrom_88 : decode cX23_partFrom 88 = .ok (.aaload, 1) := by decide +kernel
theorem eX23_partFrom_89 : decode cX23_partFrom 89 = .ok (.invokevirtual 820, 3) := by decide +kernel
theorem eX23_partFrom_92 : decode cX23_partFrom 92 = .ok (.iadd, 1) := by decide +kernel
theorem eX23_partFrom_93 : decode cX23_partFrom 93 = .ok (.istore_n 2, 1) := by decide +kernel
theorem eX23_partFrom_94 : decode cX23_partFrom 94 = .ok (.iinc 6 1, 3) := by decide +kernel
theorem eX23_partFrom_97 : decode cX23_partFrom 97 = .ok (.goto (-30), 3) := by decide +kernel
theorem eX23_partFrom_100 : decode cX23_partFrom 100 = .ok (.aload_n 1, 1) := by decide +kernel
theorem eX23_partFrom_101 : decode cX23_partFrom 101 = .ok (.getfield 683, 3) := by decide +kernel
theorem eX23_partFrom_104 : decode cX23_partFrom 104 = .ok (.iload 4, 2) := by decide +kernel
theorem eX23_partFrom_106 : decode cX23_partFrom 106 = .ok (.iconst 1, 1) := by decide +kernel
theorem eX23_partFrom_107 : decode cX23_partFrom 107 = .ok (.iadd, 1) := by decide +kernel
theorem eX23_partFrom_108 : decode cX23_partFrom 108 = .ok (.aaload, 1) := by decide +kernel
theorem eX23_partFrom_109 : decode cX23_partFrom 109 = .ok (.astore_n 3, 1) := by decide +kernel
theorem eX23_partFrom_110 : decode cX23_partFrom 110 = .ok (.iinc 4 1, 3) := by decide +kernel
theorem eX23_partFrom_113 : decode cX23_partFrom 113 = .ok (.goto (-92), 3) := by decide +kernel
theorem eX23_partFrom_116 : decode cX23_partFrom 116 = .ok (.aload_n 0, 1) := by decide +kernel
theorem eX23_partFrom_117 : decode cX23_partFrom 117 = .ok (.aload_n 0, 1) := by decide +kernel
theorem eX23_partFrom_118 : decode cX23_partFrom 118 = .ok (.aload_n 3, 1) := by decide +kernel
theorem eX23_partFrom_119 : decode cX23_partFrom 119 = .ok (.invokevirtual 820, 3) := by decide +kernel
theorem eX23_partFrom_122 : decode cX23_partFrom 122 = .ok (.putfield 825, 3) := by decide +kernel
theorem eX23_partFrom_125 : decode cX23_partFrom 125 = .ok (.iload_n 2, 1) := by decide +kernel
theorem eX23_partFrom_126 : decode cX23_partFrom 126 = .ok (.ireturn, 1) := by decide +kernel
theorem eX23_hasStar_0 : decode cX23_hasStar 0 = .ok (.iconst 0, 1) := by decide +kernel
theorem eX23_hasStar_1 : decode cX23_hasStar 1 = .ok (.istore_n 1, 1) := by decide +kernel
theorem eX23_hasStar_2 : decode cX23_hasStar 2 = .ok (.iload_n 1, 1) := by decide +kernel
theorem eX23_hasStar_3 : decode cX23_hasStar 3 = .ok (.aload_n 0, 1) := by decide +kernel
theorem eX23_hasStar_4 : decode cX23_hasStar 4 = .ok (.getfield 711, 3) := by decide +kernel
theorem eX23_hasStar_7 : decode cX23_hasStar 7 = .ok (.if_icmp .ge 21, 3) := by decide +kernel
theorem eX23_hasStar_10 : decode cX23_hasStar 10 = .ok (.aload_n 0, 1) := by decide +kernel
theorem eX23_hasStar_11 : decode cX23_hasStar 11 = .ok (.getfield 688, 3) := by decide +kernel
theorem eX23_hasStar_14 : decode cX23_hasStar 14 = .ok (.iload_n 1, 1) := by decide +kernel
theorem eX23_hasStar_15 : decode cX23_hasStar 15 = .ok (.iaload, 1) := by decide +kernel
theorem eX23_hasStar_16 : decode cX23_hasStar 16 = .ok (.iconst (-1), 1) := by decide +kernel
theorem eX23_hasStar_17 : decode cX23_hasStar 17 = .ok (.if_icmp .ne 5, 3) := by decide +kernel
theorem eX23_hasStar_20 : decode cX23_hasStar 20 = .ok (.iconst 1, 1) := by decide +kernel
theorem eX23_hasStar_21 : decode cX23_hasStar 21 = .ok (.ireturn, 1) := by decide +kernel
theorem eX23_hasStar_22 : decode cX23_hasStar 22 = .ok (.iinc 1 1, 3) := by decide +kernel
theorem eX23_hasStar_25 : decode cX23_hasStar 25 = .ok (.goto (-23), 3) := by decide +kernel
theorem eX23_hasStar_28 : decode cX23_hasStar 28 = .ok (.iconst 0, 1) := by decide +kernel
theorem eX23_hasStar_29 : decode cX23_hasStar 29 = .ok (.ireturn, 1) := by decide +kernel
theorem eX23_mark_0 : decode cX23_mark 0 = .ok (.iload_n 1, 1) := by decide +kernel
theorem eX23_mark_1 : decode cX23_mark 1 = .ok (.istore 5, 2) := by decide +kernel
theorem eX23_mark_3 : decode cX23_mark 3 = .ok (.iload 5, 2) := by decide +kernel
theorem eX23_mark_5 : decode cX23_mark 5 = .ok (.iload_n 1, 1) := by decide +kernel
theorem eX23_mark_6 : decode cX23_mark 6 = .ok (.iload_n 2, 1) := by decide +kernel
theorem eX23_mark_7 : decode cX23_mark 7 = .ok (.iadd, 1) := by decide +kernel
theorem eX23_mark_8 : decode cX23_mark 8 = .ok (.if_icmp .ge 32, 3) := by decide +kernel
theorem eX23_mark_11 : decode cX23_mark 11 = .ok (.aload_n 0, 1) := by decide +kernel
theorem eX23_mark_12 : decode cX23_mark 12 = .ok (.getfield 828, 3) := by decide +kernel
theorem eX23_mark_15 : decode cX23_mark 15 = .ok (.iconst 0, 1) := by decide +kernel
theorem eX23_mark_16 : decode cX23_mark 16 = .ok (.iload 5, 2) := by decide +kernel
theorem eX23_mark_18 : decode cX23_mark 18 = .ok (.iload_n 3, 1) := by decide +kernel
theorem eX23_mark_19 : decode cX23_mark 19 = .ok (.invokestatic 831, 3) := by decide +kernel
theorem eX23_mark_22 : decode cX23_mark 22 = .ok (.aload_n 0, 1) := by decide +kernel
theorem eX23_mark_23 : decode cX23_mark 23 = .ok (.getfield 835, 3) := by decide +kernel
theorem eX23_mark_26 : decode cX23_mark 26 = .ok (.iconst 0, 1) := by decide +kernel
theorem eX23_mark_27 : decode cX23_mark 27 = .ok (.iload 5, 2) := by decide +kernel
theorem eX23_mark_29 : decode cX23_mark 29 = .ok (.iload 4, 2) := by decide +kernel
theorem eX23_mark_31 : decode cX23_mark 31 = .ok (.invokestatic 831, 3) := by decide +kernel
theorem eX23_mark_34 : decode cX23_mark 34 = .ok (.iinc 5 1, 3) := by decide +kernel
theorem eX23_mark_37 : decode cX23_mark 37 = .ok (.goto (-34), 3) := by decide +kernel
theorem eX23_mark_40 : decode cX23_mark 40 = .ok (.return_, 1) := by decide +kernel
theorem eX23_moveBehind_0 : decode cX23_moveBehind 0 = .ok (.iconst 0, 1) := by decide +kernel
theorem eX23_moveBehind_1 : decode cX23_moveBehind 1 = .ok (.istore_n 2, 1) := by decide +kernel
theorem eX23_moveBehind_2 : decode cX23_moveBehind 2 = .ok (.iload_n 2, 1) := by decide +kernel
theorem eX23_moveBehind_3 : decode cX23_moveBehind 3 = .ok (.bipush 10, 2) := by decide +kernel
theorem eX23_moveBehind_5 : decode cX23_moveBehind 5 = .ok (.if_icmp .ge 43, 3) := by decide +kernel
theorem eX23_moveBehind_8 : decode cX23_moveBehind 8 = .ok (.aload_n 0, 1) := by decide +kernel
theorem eX23_moveBehind_9 : decode cX23_moveBehind 9 = .ok (.getfield 835, 3) := by decide +kernel
theorem eX23_moveBehind_12 : decode cX23_moveBehind 12 = .ok (.iload_n 2, 1) := by decide +kernel
theorem eX23_moveBehind_13 : decode cX23_moveBehind 13 = .ok (.aload_n 0, 1) := by decide +kernel
theorem eX23_moveBehind_14 : decode cX23_moveBehind 14 = .ok (.getfield 838, 3) := by decide +kernel
theorem eX23_moveBehind_17 : decode cX23_moveBehind 17 = .ok (.bipush 10, 2) := by decide +kernel
theorem eX23_moveBehind_19 : decode cX23_moveBehind 19 = .ok (.iload_n 1, 1) := by decide +kernel
theorem eX23_moveBehind_20 : decode cX23_moveBehind 20 = .ok (.imul, 1) := by decide +kernel
theorem eX23_moveBehind_21 : decode cX23_moveBehind 21 = .ok (.iload_n 2, 1) := by decide +kernel
theorem eX23_moveBehind_22 : decode cX23_moveBehind 22 = .ok (.iadd, 1) := by decide +kernel
theorem eX23_moveBehind_23 : decode cX23_moveBehind 23 = .ok (.laload, 1) := by decide +kernel
theorem eX23_moveBehind_24 : decode cX23_moveBehind 24 = .ok (.lastore, 1) := by decide +kernel
theorem eX23_moveBehind_25 : decode cX23_moveBehind 25 = .ok (.aload_n 0, 1) := by decide +kernel
theorem eX23_moveBehind_26 : decode cX23_moveBehind 26 = .ok (.getfield 828, 3) := by decide +kernel
theorem eX23_moveBehind_29 : decode cX23_moveBehind 29 = .ok (.iload_n 2, 1) := by decide +kernel
theorem eX23_moveBehind_30 : decode cX23_moveBehind 30 = .ok (.aload_n 0, 1) := by decide +kernel
theorem eX23_moveBehind_31 : decode cX23_moveBehind 31 = .ok (.getfield 841, 3) := by decide +kernel
theorem eX23_moveBehind_34 : decode cX23_moveBehind 34 = .ok (.bipush 10, 2) := by decide +kernel
theorem eX23_moveBehind_36 : decode cX23_moveBehind 36 = .ok (.iload_n 1, 1) := by decide +kernel
theorem eX23_moveBehind_37 : decode cX23_moveBehind 37 = .ok (.imul, 1) := by decide +kernel
theorem eX23_moveBehind_38 : decode cX23_moveBehind 38 = .ok (.iload_n 2, 1) := by decide +kernel
theorem eX23_moveBehind_39 : decode cX23_moveBehind 39 = .ok (.iadd, 1) := by decide +kernel
theorem eX23_moveBehind_40 : decode cX23_moveBehind 40 = .ok (.laload, 1) := by decide +kernel
theorem eX23_moveBehind_41 : decode cX23_moveBehind 41 = .ok (.lastore, 1) := by decide +kernel
theorem eX23_moveBehind_42 : decode cX23_moveBehind 42 = .ok (.iinc 2 1, 3) := by decide +kernel
theorem eX23_moveBehind_45 : decode cX23_moveBehind 45 = .ok (.goto (-43), 3) := by decide +kernel
theorem eX23_moveBehind_48 : decode cX23_moveBehind 48 = .ok (.aload_n 0, 1) := by decide +kernel
theorem eX23_moveBehind_49 : decode cX23_moveBehind 49 = .ok (.getfield 625, 3) := by decide +kernel
theorem eX23_moveBehind_52 : decode cX23_moveBehind 52 = .ok (.iload_n 1, 1) := by decide +kernel
theorem eX23_moveBehind_53 : decode cX23_moveBehind 53 = .ok (.iaload, 1) := by decide +kernel
theorem eX23_moveBehind_54 : decode cX23_moveBehind 54 = .ok (.tableswitch 306 2 24 #[106, 306, 306, 306, 306, 306, 306, 306, 306, 306, 151, 174, 269, 306, 306, 306, 306, 306, 306, 306, 220, 151, 197], 106) := by decide +kernel
theorem eX23_moveBehind_160 : decode cX23_moveBehind 160 = .ok (.aload_n 0, 1) := by decide +kernel
theorem eX23_moveBehind_161 : decode cX23_moveBehind 161 = .ok (.getfield 640, 3) := by decide +kernel
theorem eX23_moveBehind_164 : decode cX23_moveBehind 164 = .ok (.iload_n 1, 1) := by decide +kernel
theorem eX23_moveBehind_165 : decode cX23_moveBehind 165 = .ok (.iaload, 1) := by decide +kernel
theorem eX23_moveBehind_166 : decode cX23_moveBehind 166 = .ok (.iconst 4, 1) := by decide +kernel
theorem eX23_moveBehind_167 : decode cX23_moveBehind 167 = .ok (.if_icmp .eq 13, 3) := by decide +kernel
theorem eX23_moveBehind_170 : decode cX23_moveBehind 170 = .ok (.aload_n 0, 1) := by decide +kernel
theorem eX23_moveBehind_171 : decode cX23_moveBehind 171 = .ok (.getfield 640, 3) := by decide +kernel
theorem eX23_moveBehind_174 : decode cX23_moveBehind 174 = .ok (.iload_n 1, 1) := by decide +kernel
theorem eX23_moveBehind_175 : decode cX23_moveBehind 175 = .ok (.iaload, 1) := by decide +kernel
theorem eX23_moveBehind_176 : decode cX23_moveBehind 176 = .ok (.iconst 5, 1) := by decide +kernel
theorem eX23_moveBehind_177 : decode cX23_moveBehind 177 = .ok (.if_icmp .ne 183, 3) := by decide +kernel
theorem eX23_moveBehind_180 : decode cX23_moveBehind 180 = .ok (.aload_n 0, 1) := by decide +kernel
theorem eX23_moveBehind_181 : decode cX23_moveBehind 181 = .ok (.aload_n 0, 1) := by decide +kernel
theorem eX23_moveBehind_182 : decode cX23_moveBehind 182 = .ok (.getfield 656, 3) := by decide +kernel
theorem eX23_moveBehind_185 : decode cX23_moveBehind 185 = .ok (.iload_n 1, 1) := by decide +kernel
theorem eX23_moveBehind_186 : decode cX23_moveBehind 186 = .ok (.aaload, 1) := by decide +kernel
theorem eX23_moveBehind_187 : decode cX23_moveBehind 187 = .ok (.invokevirtual 844, 3) := by decide +kernel
theorem eX23_moveBehind_190 : decode cX23_moveBehind 190 = .ok (.istore_n 2, 1) := by decide +kernel
theorem eX23_moveBehind_191 : decode cX23_moveBehind 191 = .ok (.aload_n 0, 1) := by decide +kernel
theorem eX23_moveBehind_192 : decode cX23_moveBehind 192 = .ok (.iload_n 2, 1) := by decide +kernel
theorem eX23_moveBehind_193 : decode cX23_moveBehind 193 = .ok (.aload_n 0, 1) := by decide +kernel
theorem eX23_moveBehind_194 : decode cX23_moveBehind 194 = .ok (.getfield 825, 3) := by decide +kernel
theorem eX23_moveBehind_197 : decode cX23_moveBehind 197 = .ok (.iconst 0, 1) := by decide +kernel
theorem eX23_moveBehind_198 : decode cX23_moveBehind 198 = .ok (.iconst 1, 1) := by decide +kernel
theorem eX23_moveBehind_199 : decode cX23_moveBehind 199 = .ok (.invokevirtual 848, 3) := by decide +kernel
theorem eX23_moveBehind_202 : decode cX23_moveBehind 202 = .ok (.goto 158, 3) := by decide +kernel
theorem eX23_moveBehind_205 : decode cX23_moveBehind 205 = .ok (.aload_n 0, 1) := by decide +kernel
theorem eX23_moveBehind_206 : decode cX23_moveBehind 206 = .ok (.bipush 16, 2) := by decide +kernel
theorem eX23_moveBehind_208 : decode cX23_moveBehind 208 = .ok (.aload_n 0, 1) := by decide +kernel
theorem eX23_moveBehind_209 : decode cX23_moveBehind 209 = .ok (.getfield 663, 3) := by decide +kernel
theorem eX23_moveBehind_212 : decode cX23_moveBehind 212 = .ok (.iload_n 1, 1) := by decide +kernel
theorem eX23_moveBehind_213 : decode cX23_moveBehind 213 = .ok (.aaload, 1) := by decide +kernel
theorem eX23_moveBehind_214 : decode cX23_moveBehind 214 = .ok (.getfield 469, 3) := by decide +kernel
theorem eX23_moveBehind_217 : decode cX23_moveBehind 217 = .ok (.imul, 1) := by decide +kernel
theorem eX23_moveBehind_218 : decode cX23_moveBehind 218 = .ok (.bipush 16, 2) := by decide +kernel
theorem eX23_moveBehind_220 : decode cX23_moveBehind 220 = .ok (.iconst 1, 1) := by decide +kernel
theorem eX23_moveBehind_221 : decode cX23_moveBehind 221 = .ok (.iconst 0, 1) := by decide +kernel
theorem eX23_moveBehind_222 : decode cX23_moveBehind 222 = .ok (.invokevirtual 848, 3) := by decide +kernel
theorem eX23_moveBehind_225 : decode cX23_moveBehind 225 = .ok (.goto 135, 3) := by decide +kernel
theorem eX23_moveBehind_228 : decode cX23_moveBehind 228 = .ok (.aload_n 0, 1) := by decide +kernel
theorem eX23_moveBehind_229 : decode cX23_moveBehind 229 = .ok (.bipush 16, 2) := by decide +kernel
theorem eX23_moveBehind_231 : decode cX23_moveBehind 231 = .ok (.aload_n 0, 1) := by decide +kernel
theorem eX23_moveBehind_232 : decode cX23_moveBehind 232 = .ok (.getfield 663, 3) := by decide +kernel
theorem eX23_moveBehind_235 : decode cX23_moveBehind 235 = .ok (.iload_n 1, 1) := by decide +kernel
theorem eX23_moveBehind_236 : decode cX23_moveBehind 236 = .ok (.aaload, 1) := by decide +kernel
theorem eX23_moveBehind_237 : decode cX23_moveBehind 237 = .ok (.getfield 469, 3) := by decide +kernel
theorem eX23_moveBehind_240 : decode cX23_moveBehind 240 = .ok (.imul, 1) := by decide +kernel
theorem eX23_moveBehind_241 : decode cX23_moveBehind 241 = .ok (.bipush 16, 2) := by decide +kernel
theorem eX23_moveBehind_243 : decode cX23_moveBehind 243 = .ok (.iconst 0, 1) := by decide +kernel
theorem eX23_moveBehind_244 : decode cX23_moveBehind 244 = .ok (.iconst 1, 1) := by decide +kernel
theorem eX23_moveBehind_245 : decode cX23_moveBehind 245 = .ok (.invokevirtual 848, 3) := by decide +kernel
theorem eX23_moveBehind_248 : decode cX23_moveBehind 248 = .ok (.goto 112, 3) := by decide +kernel
theorem eX23_moveBehind_251 : decode cX23_moveBehind 251 = .ok (.aload_n 0, 1) := by decide +kernel
theorem eX23_moveBehind_252 : decode cX23_moveBehind 252 = .ok (.bipush 16, 2) := by decide +kernel
theorem eX23_moveBehind_254 : decode cX23_moveBehind 254 = .ok (.aload_n 0, 1) := by decide +kernel
theorem eX23_moveBehind_255 : decode cX23_moveBehind 255 = .ok (.getfield 663, 3) := by decide +kernel
theorem eX23_moveBehind_258 : decode cX23_moveBehind 258 = .ok (.iload_n 1, 1) := by decide +kernel
theorem eX23_moveBehind_259 : decode cX23_moveBehind 259 = .ok (.aaload, 1) := by decide +kernel
theorem eX23_moveBehind_260 : decode cX23_moveBehind 260 = .ok (.getfield 469, 3) := by decide +kernel
theorem eX23_moveBehind_263 : decode cX23_moveBehind 263 = .ok (.imul, 1) := by decide +kernel
theorem eX23_moveBehind_264 : decode cX23_moveBehind 264 = .ok (.bipush 16, 2) := by decide +kernel
theorem eX23_moveBehind_266 : decode cX23_moveBehind 266 = .ok (.iconst 0, 1) := by decide +kernel
theorem eX23_moveBehind_267 : decode cX23_moveBehind 267 = .ok (.iconst 0, 1) := by decide +kernel
theorem eX23_moveBehind_268 : decode cX23_moveBehind 268 = .ok (.invokevirtual 848, 3) := by decide +kernel
theorem eX23_moveBehind_271 : decode cX23_moveBehind 271 = .ok (.goto 89, 3) := by decide +kernel
theorem eX23_moveBehind_274 : decode cX23_moveBehind 274 = .ok (.iconst 0, 1) := by decide +kernel
theorem eX23_moveBehind_275 : decode cX23_moveBehind 275 = .ok (.istore_n 2, 1) := by decide +kernel
theorem eX23_moveBehind_276 : decode cX23_moveBehind 276 = .ok (.iload_n 2, 1) := by decide +kernel
theorem eX23_moveBehind_277 : decode cX23_moveBehind 277 = .ok (.aload_n 0, 1) := by decide +kernel
theorem eX23_moveBehind_278 : decode cX23_moveBehind 278 = .ok (.getfield 665, 3) := by decide +kernel
theorem eX23_moveBehind_281 : decode cX23_moveBehind 281 = .ok (.iload_n 1, 1) := by decide +kernel
theorem eX23_moveBehind_282 : decode cX23_moveBehind 282 = .ok (.aaload, 1) := by decide +kernel
theorem eX23_moveBehind_283 : decode cX23_moveBehind 283 = .ok (.getfield 327, 3) := by decide +kernel
theorem eX23_moveBehind_286 : decode cX23_moveBehind 286 = .ok (.if_icmp .ge 34, 3) := by decide +kernel
theorem eX23_moveBehind_289 : decode cX23_moveBehind 289 = .ok (.aload_n 0, 1) := by decide +kernel
theorem eX23_moveBehind_290 : decode cX23_moveBehind 290 = .ok (.bipush 16, 2) := by decide +kernel
theorem eX23_moveBehind_292 : decode cX23_moveBehind 292 = .ok (.aload_n 0, 1) := by decide +kernel
theorem eX23_moveBehind_293 : decode cX23_moveBehind 293 = .ok (.getfield 665, 3) := by decide +kernel
theorem eX23_moveBehind_296 : decode cX23_moveBehind 296 = .ok (.iload_n 1, 1) := by decide +kernel
theorem eX23_moveBehind_297 : decode cX23_moveBehind 297 = .ok (.aaload, 1) := by decide +kernel
theorem eX23_moveBehind_298 : decode cX23_moveBehind 298 = .ok (.getfield 596, 3) := by decide +kernel
theorem eX23_moveBehind_301 : decode cX23_moveBehind 301 = .ok (.iload_n 2, 1) := by decide +kernel
theorem eX23_moveBehind_302 : decode cX23_moveBehind 302 = .ok (.aaload, 1) := by decide +kernel
theorem eX23_moveBehind_303 : decode cX23_moveBehind 303 = .ok (.getfield 469, 3) := by decide +kernel
theorem eX23_moveBehind_306 : decode cX23_moveBehind 306 = .ok (.imul, 1) := by decide +kernel
theorem eX23_moveBehind_307 : decode cX23_moveBehind 307 = .ok (.bipush 16, 2) := by decide +kernel
theorem eX23_moveBehind_309 : decode cX23_moveBehind 309 = .ok (.iconst 1, 1) := by decide +kernel
theorem eX23_moveBehind_310 : decode cX23_moveBehind 310 = .ok (.iconst 0, 1) := by decide +kernel
theorem eX23_moveBehind_311 : decode cX23_moveBehind 311 = .ok (.invokevirtual 848, 3) := by decide +kernel
theorem eX23_moveBehind_314 : decode cX23_moveBehind 314 = .ok (.iinc 2 1, 3) := by decide +kernel
theorem eX23_moveBehind_317 : decode cX23_moveBehind 317 = .ok (.goto (-41), 3) := by decide +kernel
theorem eX23_moveBehind_320 : decode cX23_moveBehind 320 = .ok (.goto 40, 3) := by decide +kernel
theorem eX23_moveBehind_323 : decode cX23_moveBehind 323 = .ok (.aload_n 0, 1) := by decide +kernel
theorem eX23_moveBehind_324 : decode cX23_moveBehind 324 = .ok (.getfield 656, 3) := by decide +kernel
theorem eX23_moveBehind_327 : decode cX23_moveBehind 327 = .ok (.iload_n 1, 1) := by decide +kernel
theorem eX23_moveBehind_328 : decode cX23_moveBehind 328 = .ok (.aaload, 1) := by decide +kernel
theorem eX23_moveBehind_329 : decode cX23_moveBehind 329 = .ok (.invokestatic 852, 3) := by decide +kernel
theorem eX23_moveBehind_332 : decode cX23_moveBehind 332 = .ok (.ifCond .ne 28, 3) := by decide +kernel
theorem eX23_moveBehind_335 : decode cX23_moveBehind 335 = .ok (.aload_n 0, 1) := by decide +kernel
theorem eX23_moveBehind_336 : decode cX23_moveBehind 336 = .ok (.aload_n 0, 1) := by decide +kernel
theorem eX23_moveBehind_337 : decode cX23_moveBehind 337 = .ok (.getfield 656, 3) := by decide +kernel
theorem eX23_moveBehind_340 : decode cX23_moveBehind 340 = .ok (.iload_n 1, 1) := by decide +kernel
theorem eX23_moveBehind_341 : decode cX23_moveBehind 341 = .ok (.aaload, 1) := by decide +kernel
theorem eX23_moveBehind_342 : decode cX23_moveBehind 342 = .ok (.invokevirtual 844, 3) := by decide +kernel
theorem eX23_moveBehind_345 : decode cX23_moveBehind 345 = .ok (.istore_n 2, 1) := by decide +kernel
theorem eX23_moveBehind_346 : decode cX23_moveBehind 346 = .ok (.aload_n 0, 1) := by decide +kernel
theorem eX23_moveBehind_347 : decode cX23_moveBehind 347 = .ok (.iload_n 2, 1) := by decide +kernel
theorem eX23_moveBehind_348 : decode cX23_moveBehind 348 = .ok (.aload_n 0, 1) := by decide +kernel
theorem eX23_moveBehind_349 : decode cX23_moveBehind 349 = .ok (.getfield 825, 3) := by decide +kernel
theorem eX23_moveBehind_352 : decode cX23_moveBehind 352 = .ok (.iconst 1, 1) := by decide +kernel
theorem eX23_moveBehind_353 : decode cX23_moveBehind 353 = .ok (.iconst 0, 1) := by decide +kernel
theorem eX23_moveBehind_354 : decode cX23_moveBehind 354 = .ok (.invokevirtual 848, 3) := by decide +kernel
theorem eX23_moveBehind_357 : decode cX23_moveBehind 357 = .ok (.goto 3, 3) := by decide +kernel
theorem eX23_moveBehind_360 : decode cX23_moveBehind 360 = .ok (.return_, 1) := by decide +kernel
theorem eX23_merges_0 : decode cX23_merges 0 = .ok (.iconst 0, 1) := by decide +kernel
theorem eX23_merges_1 : decode cX23_merges 1 = .ok (.istore_n 2, 1) := by decide +kernel
theorem eX23_merges_2 : decode cX23_merges 2 = .ok (.iconst 0, 1) := by decide +kernel
theorem eX23_merges_3 : decode cX23_merges 3 = .ok (.istore_n 3, 1) := by decide +kernel
theorem eX23_merges_4 : decode cX23_merges 4 = .ok (.iload_n 3, 1) := by decide +kernel
theorem eX23_merges_5 : decode cX23_merges 5 = .ok (.bipush 10, 2) := by decide +kernel
theorem eX23_merges_7 : decode cX23_merges 7 = .ok (.if_icmp .ge 93, 3) := by decide +kernel
theorem eX23_merges_10 : decode cX23_merges 10 = .ok (.aload_n 0, 1) := by decide +kernel
theorem eX23_merges_11 : decode cX23_merges 11 = .ok (.getfield 838, 3) := by decide +kernel
theorem eX23_merges_14 : decode cX23_merges 14 = .ok (.iload_n 1, 1) := by decide +kernel
theorem eX23_merges_15 : decode cX23_merges 15 = .ok (.iload_n 3, 1) := by decide +kernel
theorem eX23_merges_16 : decode cX23_merges 16 = .ok (.iadd, 1) := by decide +kernel
theorem eX23_merges_17 : decode cX23_merges 17 = .ok (.laload, 1) := by decide +kernel
theorem eX23_merges_18 : decode cX23_merges 18 = .ok (.aload_n 0, 1) := by decide +kernel
theorem eX23_merges_19 : decode cX23_merges 19 = .ok (.getfield 835, 3) := by decide +kernel
theorem eX23_merges_22 : decode cX23_merges 22 = .ok (.iload_n 3, 1) := by decide +kernel
theorem eX23_merges_23 : decode cX23_merges 23 = .ok (.laload, 1) := by decide +kernel
theorem eX23_merges_24 : decode cX23_merges 24 = .ok (.lor, 1) := by decide +kernel
theorem eX23_merges_25 : decode cX23_merges 25 = .ok (.lstore 4, 2) := by decide +kernel
theorem eX23_merges_27 : decode cX23_merges 27 = .ok (.aload_n 0, 1) := by decide +kernel
theorem eX23_merges_28 : decode cX23_merges 28 = .ok (.getfield 841, 3) := by decide +kernel
theorem eX23_merges_31 : decode cX23_merges 31 = .ok (.iload_n 1, 1) := by decide +kernel
theorem eX23_merges_32 : decode cX23_merges 32 = .ok (.iload_n 3, 1) := by decide +kernel
theorem eX23_merges_33 : decode cX23_merges 33 = .ok (.iadd, 1) := by decide +kernel
theorem eX23_merges_34 : decode cX23_merges 34 = .ok (.laload, 1) := by decide +kernel
theorem eX23_merges_35 : decode cX23_merges 35 = .ok (.aload_n 0, 1) := by decide +kernel
theorem eX23_merges_36 : decode cX23_merges 36 = .ok (.getfield 828, 3) := by decide +kernel
theorem eX23_merges_39 : decode cX23_merges 39 = .ok (.iload_n 3, 1) := by decide +kernel
theorem eX23_merges_40 : decode cX23_merges 40 = .ok (.laload, 1) := by decide +kernel
theorem eX23_merges_41 : decode cX23_merges 41 = .ok (.lor, 1) := by decide +kernel
theorem eX23_merges_42 : decode cX23_merges 42 = .ok (.lstore 6, 2) := by decide +kernel
theorem eX23_merges_44 : decode cX23_merges 44 = .ok (.lload 4, 2) := by decide +kernel
theorem eX23_merges_46 : decode cX23_merges 46 = .ok (.aload_n 0, 1) := by decide +kernel
theorem eX23_merges_47 : decode cX23_merges 47 = .ok (.getfield 838, 3) := by decide +kernel
theorem eX23_merges_50 : decode cX23_merges 50 = .ok (.iload_n 1, 1) := by decide +kernel
theorem eX23_merges_51 : decode cX23_merges 51 = .ok (.iload_n 3, 1) := by decide +kernel
theorem eX23_merges_52 : decode cX23_merges 52 = .ok (.iadd, 1) := by decide +kernel
theorem eX23_merges_53 : decode cX23_merges 53 = .ok (.laload, 1) := by decide +kernel
theorem eX23_merges_54 : decode cX23_merges 54 = .ok (.lcmp, 1) := by decide +kernel
theorem eX23_merges_55 : decode cX23_merges 55 = .ok (.ifCond .ne 17, 3) := by decide +kernel
theorem eX23_merges_58 : decode cX23_merges 58 = .ok (.lload 6, 2) := by decide +kernel
theorem eX23_merges_60 : decode cX23_merges 60 = .ok (.aload_n 0, 1) := by decide +kernel
theorem eX23_merges_61 : decode cX23_merges 61 = .ok (.getfield 841, 3) := by decide +kernel
theorem eX23_merges_64 : decode cX23_merges 64 = .ok (.iload_n 1, 1) := by decide +kernel
theorem eX23_merges_65 : decode cX23_merges 65 = .ok (.iload_n 3, 1) := by decide +kernel
theorem eX23_merges_66 : decode cX23_merges 66 = .ok (.iadd, 1) := by decide +kernel
theorem eX23_merges_67 : decode cX23_merges 67 = .ok (.laload, 1) := by decide +kernel
theorem eX23_merges_68 : decode cX23_merges 68 = .ok (.lcmp, 1) := by decide +kernel
theorem eX23_merges_69 : decode cX23_merges 69 = .ok (.ifCond .eq 5, 3) := by decide +kernel
theorem eX23_merges_72 : decode cX23_merges 72 = .ok (.iconst 1, 1) := by decide +kernel
theorem eX23_merges_73 : decode cX23_merges 73 = .ok (.istore_n 2, 1) := by decide +kernel
theorem eX23_merges_74 : decode cX23_merges 74 = .ok (.aload_n 0, 1) := by decide +kernel
theorem eX23_merges_75 : decode cX23_merges 75 = .ok (.getfield 838, 3) := by decide +kernel
theorem eX23_merges_78 : decode cX23_merges 78 = .ok (.iload_n 1, 1) := by decide +kernel
theorem eX23_merges_79 : decode cX23_merges 79 = .ok (.iload_n 3, 1) := by decide +kernel
theorem eX23_merges_80 : decode cX23_merges 80 = .ok (.iadd, 1) := by decide +kernel
theorem eX23_merges_81 : decode cX23_merges 81 = .ok (.lload 4, 2) := by decide +kernel
theorem eX23_merges_83 : decode cX23_merges 83 = .ok (.lastore, 1) := by decide +kernel
theorem eX23_merges_84 : decode cX23_merges 84 = .ok (.aload_n 0, 1) := by decide +kernel
theorem eX23_merges_85 : decode cX23_merges 85 = .ok (.getfield 841, 3) := by decide +kernel
theorem eX23_merges_88 : decode cX23_merges 88 = .ok (.iload_n 1, 1) := by decide +kernel
theorem eX23_merges_89 : decode cX23_merges 89 = .ok (.iload_n 3, 1) := by decide +kernel
theorem eX23_merges_90 : decode cX23_merges 90 = .ok (.iadd, 1) := by decide +kernel
theorem eX23_merges_91 : decode cX23_merges 91 = .ok (.lload 6, 2) := by decide +kernel
theorem eX23_merges_93 : decode cX23_merges 93 = .ok (.lastore, 1) := by decide +kernel
theorem eX23_merges_94 : decode cX23_merges 94 = .ok (.iinc 3 1, 3) := by decide +kernel
theorem eX23_merges_97 : decode cX23_merges 97 = .ok (.goto (-93), 3) := by decide +kernel
theorem eX23_merges_100 : decode cX23_merges 100 = .ok (.iload_n 2, 1) := by decide +kernel
theorem eX23_merges_101 : decode cX23_merges 101 = .ok (.ireturn, 1) := by decide +kernel
theorem eX23_spreadMoves_0 : decode cX23_spreadMoves 0 = .ok (.bipush 10, 2) := by decide +kernel
theorem eX23_spreadMoves_2 : decode cX23_spreadMoves 2 = .ok (.aload_n 1, 1) := by decide +kernel
theorem eX23_spreadMoves_3 : decode cX23_spreadMoves 3 = .ok (.getfield 807, 3) := by decide +kernel
theorem eX23_spreadMoves_6 : decode cX23_spreadMoves 6 = .ok (.imul, 1) := by decide +kernel
theorem eX23_spreadMoves_7 : decode cX23_spreadMoves 7 = .ok (.istore_n 2, 1) := by decide +kernel
theorem eX23_spreadMoves_8 : decode cX23_spreadMoves 8 = .ok (.iload_n 2, 1) := by decide +kernel
theorem eX23_spreadMoves_9 : decode cX23_spreadMoves 9 = .ok (.bipush 10, 2) := by decide +kernel
theorem eX23_spreadMoves_11 : decode cX23_spreadMoves 11 = .ok (.aload_n 1, 1) := by decide +kernel
theorem eX23_spreadMoves_12 : decode cX23_spreadMoves 12 = .ok (.getfield 813, 3) := by decide +kernel
theorem eX23_spreadMoves_15 : decode cX23_spreadMoves 15 = .ok (.imul, 1) := by decide +kernel
theorem eX23_spreadMoves_16 : decode cX23_spreadMoves 16 = .ok (.if_icmp .ge 23, 3) := by decide +kernel
theorem eX23_spreadMoves_19 : decode cX23_spreadMoves 19 = .ok (.aload_n 0, 1) := by decide +kernel
theorem eX23_spreadMoves_20 : decode cX23_spreadMoves 20 = .ok (.getfield 838, 3) := by decide +kernel
theorem eX23_spreadMoves_23 : decode cX23_spreadMoves 23 = .ok (.iload_n 2, 1) := by decide +kernel
theorem eX23_spreadMoves_24 : decode cX23_spreadMoves 24 = .ok (.lconst 0, 1) := by decide +kernel
theorem eX23_spreadMoves_25 : decode cX23_spreadMoves 25 = .ok (.lastore, 1) := by decide +kernel
theorem eX23_spreadMoves_26 : decode cX23_spreadMoves 26 = .ok (.aload_n 0, 1) := by decide +kernel
theorem eX23_spreadMoves_27 : decode cX23_spreadMoves 27 = .ok (.getfield 841, 3) := by decide +kernel
theorem eX23_spreadMoves_30 : decode cX23_spreadMoves 30 = .ok (.iload_n 2, 1) := by decide +kernel
theorem eX23_spreadMoves_31 : decode cX23_spreadMoves 31 = .ok (.lconst 0, 1) := by decide +kernel
theorem eX23_spreadMoves_32 : decode cX23_spreadMoves 32 = .ok (.lastore, 1) := by decide +kernel
theorem eX23_spreadMoves_33 : decode cX23_spreadMoves 33 = .ok (.iinc 2 1, 3) := by decide +kernel
theorem eX23_spreadMoves_36 : decode cX23_spreadMoves 36 = .ok (.goto (-28), 3) := by decide +kernel
theorem eX23_spreadMoves_39 : decode cX23_spreadMoves 39 = .ok (.iconst 0, 1) := by decide +kernel
theorem eX23_spreadMoves_40 : decode cX23_spreadMoves 40 = .ok (.istore_n 2, 1) := by decide +kernel
theorem eX23_spreadMoves_41 : decode cX23_spreadMoves 41 = .ok (.iload_n 2, 1) := by decide +kernel
theorem eX23_spreadMoves_42 : decode cX23_spreadMoves 42 = .ok (.aload_n 1, 1) := by decide +kernel
theorem eX23_spreadMoves_43 : decode cX23_spreadMoves 43 = .ok (.getfield 139, 3) := by decide +kernel
theorem eX23_spreadMoves_46 : decode cX23_spreadMoves 46 = .ok (.if_icmp .ge 52, 3) := by decide +kernel
theorem eX23_spreadMoves_49 : decode cX23_spreadMoves 49 = .ok (.iconst 0, 1) := by decide +kernel
theorem eX23_spreadMoves_50 : decode cX23_spreadMoves 50 = .ok (.istore_n 3, 1) := by decide +kernel
theorem eX23_spreadMoves_51 : decode cX23_spreadMoves 51 = .ok (.iload_n 3, 1) := by decide +kernel
theorem eX23_spreadMoves_52 : decode cX23_spreadMoves 52 = .ok (.bipush 16, 2) := by decide +kernel
theorem eX23_spreadMoves_54 : decode cX23_spreadMoves 54 = .ok (.if_icmp .ge 38, 3) := by decide +kernel
theorem eX23_spreadMoves_57 : decode cX23_spreadMoves 57 = .ok (.aload_n 0, 1) := by decide +kernel
theorem eX23_spreadMoves_58 : decode cX23_spreadMoves 58 = .ok (.getfield 841, 3) := by decide +kernel
theorem eX23_spreadMoves_61 : decode cX23_spreadMoves 61 = .ok (.bipush 10, 2) := by decide +kernel
theorem eX23_spreadMoves_63 : decode cX23_spreadMoves 63 = .ok (.aload_n 1, 1) := by decide +kernel
theorem eX23_spreadMoves_64 : decode cX23_spreadMoves 64 = .ok (.getfield 807, 3) := by decide +kernel
theorem eX23_spreadMoves_67 : decode cX23_spreadMoves 67 = .ok (.imul, 1) := by decide +kernel
theorem eX23_spreadMoves_68 : decode cX23_spreadMoves 68 = .ok (.bipush 16, 2) := by decide +kernel
theorem eX23_spreadMoves_70 : decode cX23_spreadMoves 70 = .ok (.aload_n 1, 1) := by decide +kernel
theorem eX23_spreadMoves_71 : decode cX23_spreadMoves 71 = .ok (.getfield 194, 3) := by decide +kernel
theorem eX23_spreadMoves_74 : decode cX23_spreadMoves 74 = .ok (.iload_n 2, 1) := by decide +kernel
theorem eX23_spreadMoves_75 : decode cX23_spreadMoves 75 = .ok (.aaload, 1) := by decide +kernel
theorem eX23_spreadMoves_76 : decode cX23_spreadMoves 76 = .ok (.getfield 469, 3) := by decide +kernel
theorem eX23_spreadMoves_79 : decode cX23_spreadMoves 79 = .ok (.imul, 1) := by decide +kernel
theorem eX23_spreadMoves_80 : decode cX23_spreadMoves 80 = .ok (.iload_n 3, 1) := by decide +kernel
theorem eX23_spreadMoves_81 : decode cX23_spreadMoves 81 = .ok (.iadd, 1) := by decide +kernel
theorem eX23_spreadMoves_82 : decode cX23_spreadMoves 82 = .ok (.iconst 1, 1) := by decide +kernel
theorem eX23_spreadMoves_83 : decode cX23_spreadMoves 83 = .ok (.invokestatic 831, 3) := by decide +kernel
theorem eX23_spreadMoves_86 : decode cX23_spreadMoves 86 = .ok (.iinc 3 1, 3) := by decide +kernel
theorem eX23_spreadMoves_89 : decode cX23_spreadMoves 89 = .ok (.goto (-38), 3) := by decide +kernel
theorem eX23_spreadMoves_92 : decode cX23_spreadMoves 92 = .ok (.iinc 2 1, 3) := by decide +kernel
theorem eX23_spreadMoves_95 : decode cX23_spreadMoves 95 = .ok (.goto (-54), 3) := by decide +kernel
theorem eX23_spreadMoves_98 : decode cX23_spreadMoves 98 = .ok (.iconst 1, 1) := by decide +kernel
theorem eX23_spreadMoves_99 : decode cX23_spreadMoves 99 = .ok (.istore_n 2, 1) := by decide +kernel
theorem eX23_spreadMoves_100 : decode cX23_spreadMoves 100 = .ok (.iload_n 2, 1) := by decide +kernel
theorem eX23_spreadMoves_101 : decode cX23_spreadMoves 101 = .ok (.ifCond .eq 88, 3) := by decide +kernel
theorem eX23_spreadMoves_104 : decode cX23_spreadMoves 104 = .ok (.iconst 0, 1) := by decide +kernel
theorem eX23_spreadMoves_105 : decode cX23_spreadMoves 105 = .ok (.istore_n 2, 1) := by decide +kernel
theorem eX23_spreadMoves_106 : decode cX23_spreadMoves 106 = .ok (.aload_n 1, 1) := by decide +kernel
theorem eX23_spreadMoves_107 : decode cX23_spreadMoves 107 = .ok (.getfield 807, 3) := by decide +kernel
theorem eX23_spreadMoves_110 : decode cX23_spreadMoves 110 = .ok (.istore_n 3, 1) := by decide +kernel
theorem eX23_spreadMoves_111 : decode cX23_spreadMoves 111 = .ok (.iload_n 3, 1) := by decide +kernel
theorem eX23_spreadMoves_112 : decode cX23_spreadMoves 112 = .ok (.aload_n 1, 1) := by decide +kernel
theorem eX23_spreadMoves_113 : decode cX23_spreadMoves 113 = .ok (.getfield 813, 3) := by decide +kernel
theorem eX23_spreadMoves_116 : decode cX23_spreadMoves 116 = .ok (.if_icmp .ge 70, 3) := by decide +kernel
theorem eX23_spreadMoves_119 : decode cX23_spreadMoves 119 = .ok (.aload_n 0, 1) := by decide +kernel
theorem eX23_spreadMoves_120 : decode cX23_spreadMoves 120 = .ok (.getfield 814, 3) := by decide +kernel
theorem eX23_spreadMoves_123 : decode cX23_spreadMoves 123 = .ok (.iload_n 3, 1) := by decide +kernel
theorem eX23_spreadMoves_124 : decode cX23_spreadMoves 124 = .ok (.baload, 1) := by decide +kernel
theorem eX23_spreadMoves_125 : decode cX23_spreadMoves 125 = .ok (.ifCond .eq 8, 3) := by decide +kernel
theorem eX23_spreadMoves_128 : decode cX23_spreadMoves 128 = .ok (.aload_n 0, 1) := by decide +kernel
theorem eX23_spreadMoves_129 : decode cX23_spreadMoves 129 = .ok (.iload_n 3, 1) := by decide +kernel
theorem eX23_spreadMoves_130 : decode cX23_spreadMoves 130 = .ok (.invokevirtual 856, 3) := by decide +kernel
theorem eX23_spreadMoves_133 : decode cX23_spreadMoves 133 = .ok (.iconst 0, 1) := by decide +kernel
theorem eX23_spreadMoves_134 : decode cX23_spreadMoves 134 = .ok (.istore 4, 2) := by decide +kernel
theorem eX23_spreadMoves_136 : decode cX23_spreadMoves 136 = .ok (.aload_n 0, 1) := by decide +kernel
theorem eX23_spreadMoves_137 : decode cX23_spreadMoves 137 = .ok (.getfield 814, 3) := by decide +kernel
theorem eX23_spreadMoves_140 : decode cX23_spreadMoves 140 = .ok (.iload_n 3, 1) := by decide +kernel
theorem eX23_spreadMoves_141 : decode cX23_spreadMoves 141 = .ok (.baload, 1) := by decide +kernel
theorem eX23_spreadMoves_142 : decode cX23_spreadMoves 142 = .ok (.ifCond .eq 38, 3) := by decide +kernel
theorem eX23_spreadMoves_145 : decode cX23_spreadMoves 145 = .ok (.aload_n 0, 1) := by decide +kernel
theorem eX23_spreadMoves_146 : decode cX23_spreadMoves 146 = .ok (.iload_n 3, 1) := by decide +kernel
theorem eX23_spreadMoves_147 : decode cX23_spreadMoves 147 = .ok (.iload 4, 2) := by decide +kernel
theorem eX23_spreadMoves_149 : decode cX23_spreadMoves 149 = .ok (.invokevirtual 817, 3) := by decide +kernel
theorem eX23_spreadMoves_152 : decode cX23_spreadMoves 152 = .ok (.ifCond .lt 28, 3) := by decide +kernel
theorem eX23_spreadMoves_155 : decode cX23_spreadMoves 155 = .ok (.aload_n 0, 1) := by decide +kernel
theorem eX23_spreadMoves_156 : decode cX23_spreadMoves 156 = .ok (.bipush 10, 2) := by decide +kernel
theorem eX23_spreadMoves_158 : decode cX23_spreadMoves 158 = .ok (.aload_n 0, 1) := by decide +kernel
theorem eX23_spreadMoves_159 : decode cX23_spreadMoves 159 = .ok (.iload_n 3, 1) := by decide +kernel
theorem eX23_spreadMoves_160 : decode cX23_spreadMoves 160 = .ok (.iload 4, 2) := by decide +kernel
theorem eX23_spreadMoves_162 : decode cX23_spreadMoves 162 = .ok (.invokevirtual 817, 3) := by decide +kernel
theorem eX23_spreadMoves_165 : decode cX23_spreadMoves 165 = .ok (.imul, 1) := by decide +kernel
theorem eX23_spreadMoves_166 : decode cX23_spreadMoves 166 = .ok (.invokevirtual 859, 3) := by decide +kernel
theorem eX23_spreadMoves_169 : decode cX23_spreadMoves 169 = .ok (.ifCond .eq 5, 3) := by decide +kernel
theorem eX23_spreadMoves_172 : decode cX23_spreadMoves 172 = .ok (.iconst 1, 1) := by decide +kernel
theorem eX23_spreadMoves_173 : decode cX23_spreadMoves 173 = .ok (.istore_n 2, 1) := by decide +kernel
theorem eX23_spreadMoves_174 : decode cX23_spreadMoves 174 = .ok (.iinc 4 1, 3) := by decide +kernel
theorem eX23_spreadMoves_177 : decode cX23_spreadMoves 177 = .ok (.goto (-41), 3) := by decide +kernel
theorem eX23_spreadMoves_180 : decode cX23_spreadMoves 180 = .ok (.iinc 3 1, 3) := by decide +kernel
theorem eX23_spreadMoves_183 : decode cX23_spreadMoves 183 = .ok (.goto (-72), 3) := by decide +kernel
theorem eX23_spreadMoves_186 : decode cX23_spreadMoves 186 = .ok (.goto (-86), 3) := by decide +kernel
theorem eX23_spreadMoves_189 : decode cX23_spreadMoves 189 = .ok (.return_, 1) := by decide +kernel
theorem eX23_some_0 : decode cX23_some 0 = .ok (.iload_n 3, 1) := by decide +kernel
theorem eX23_some_1 : decode cX23_some 1 = .ok (.istore 5, 2) := by decide +kernel
theorem eX23_some_3 : decode cX23_some 3 = .ok (.iload 5, 2) := by decide +kernel
theorem eX23_some_5 : decode cX23_some 5 = .ok (.iload_n 3, 1) := by decide +kernel
theorem eX23_some_6 : decode cX23_some 6 = .ok (.iload 4, 2) := by decide +kernel
theorem eX23_some_8 : decode cX23_some 8 = .ok (.iadd, 1) := by decide +kernel
theorem eX23_some_9 : decode cX23_some 9 = .ok (.if_icmp .ge 24, 3) := by decide +kernel
theorem eX23_some_12 : decode cX23_some 12 = .ok (.aload_n 1, 1) := by decide +kernel
theorem eX23_some_13 : decode cX23_some 13 = .ok (.bipush 10, 2) := by decide +kernel
theorem eX23_some_15 : decode cX23_some 15 = .ok (.iload_n 2, 1) := by decide +kernel
theorem eX23_some_16 : decode cX23_some 16 = .ok (.imul, 1) := by decide +kernel
theorem eX23_some_17 : decode cX23_some 17 = .ok (.iload 5, 2) := by decide +kernel
theorem eX23_some_19 : decode cX23_some 19 = .ok (.invokestatic 862, 3) := by decide +kernel
theorem eX23_some_22 : decode cX23_some 22 = .ok (.ifCond .eq 5, 3) := by decide +kernel
theorem eX23_some_25 : decode cX23_some 25 = .ok (.iconst 1, 1) := by decide +kernel
theorem eX23_some_26 : decode cX23_some 26 = .ok (.ireturn, 1) := by decide +kernel
theorem eX23_some_27 : decode cX23_some 27 = .ok (.iinc 5 1, 3) := by decide +kernel
theorem eX23_some_30 : decode cX23_some 30 = .ok (.goto (-27), 3) := by decide +kernel
theorem eX23_some_33 : decode cX23_some 33 = .ok (.iconst 0, 1) := by decide +kernel
theorem eX23_some_34 : decode cX23_some 34 = .ok (.ireturn, 1) := by decide +kernel
theorem eX23_moveWrong_0 : decode cX23_moveWrong 0 = .ok (.aload_n 0, 1) := by decide +kernel
theorem eX23_moveWrong_1 : decode cX23_moveWrong 1 = .ok (.getfield 640, 3) := by decide +kernel
theorem eX23_moveWrong_4 : decode cX23_moveWrong 4 = .ok (.iload_n 1, 1) := by decide +kernel
theorem eX23_moveWrong_5 : decode cX23_moveWrong 5 = .ok (.iaload, 1) := by decide +kernel
theorem eX23_moveWrong_6 : decode cX23_moveWrong 6 = .ok (.istore_n 2, 1) := by decide +kernel
theorem eX23_moveWrong_7 : decode cX23_moveWrong 7 = .ok (.iload_n 2, 1) := by decide +kernel
theorem eX23_moveWrong_8 : decode cX23_moveWrong 8 = .ok (.ifCond .eq 9, 3) := by decide +kernel
theorem eX23_moveWrong_11 : decode cX23_moveWrong 11 = .ok (.iload_n 2, 1) := by decide +kernel
theorem eX23_moveWrong_12 : decode cX23_moveWrong 12 = .ok (.bipush 7, 2) := by decide +kernel
theorem eX23_moveWrong_14 : decode cX23_moveWrong 14 = .ok (.if_icmp .ne 5, 3) := by decide +kernel
theorem eX23_moveWrong_17 : decode cX23_moveWrong 17 = .ok (.iconst 0, 1) := by decide +kernel
theorem eX23_moveWrong_18 : decode cX23_moveWrong 18 = .ok (.ireturn, 1) := by decide +kernel
theorem eX23_moveWrong_19 : decode cX23_moveWrong 19 = .ok (.aload_n 0, 1) := by decide +kernel
theorem eX23_moveWrong_20 : decode cX23_moveWrong 20 = .ok (.aload_n 0, 1) := by decide +kernel
theorem eX23_moveWrong_21 : decode cX23_moveWrong 21 = .ok (.getfield 656, 3) := by decide +kernel
theorem eX23_moveWrong_24 : decode cX23_moveWrong 24 = .ok (.iload_n 1, 1) := by decide +kernel
theorem eX23_moveWrong_25 : decode cX23_moveWrong 25 = .ok (.aaload, 1) := by decide +kernel
theorem eX23_moveWrong_26 : decode cX23_moveWrong 26 = .ok (.invokevirtual 844, 3) := by decide +kernel
theorem eX23_moveWrong_29 : decode cX23_moveWrong 29 = .ok (.istore_n 3, 1) := by decide +kernel
theorem eX23_moveWrong_30 : decode cX23_moveWrong 30 = .ok (.iload_n 2, 1) := by decide +kernel
theorem eX23_moveWrong_31 : decode cX23_moveWrong 31 = .ok (.bipush 6, 2) := by decide +kernel
theorem eX23_moveWrong_33 : decode cX23_moveWrong 33 = .ok (.if_icmp .ne 15, 3) := by decide +kernel
theorem eX23_moveWrong_36 : decode cX23_moveWrong 36 = .ok (.aload_n 0, 1) := by decide +kernel
theorem eX23_moveWrong_37 : decode cX23_moveWrong 37 = .ok (.getfield 656, 3) := by decide +kernel
theorem eX23_moveWrong_40 : decode cX23_moveWrong 40 = .ok (.iload_n 1, 1) := by decide +kernel
theorem eX23_moveWrong_41 : decode cX23_moveWrong 41 = .ok (.aaload, 1) := by decide +kernel
theorem eX23_moveWrong_42 : decode cX23_moveWrong 42 = .ok (.invokestatic 852, 3) := by decide +kernel
theorem eX23_moveWrong_45 : decode cX23_moveWrong 45 = .ok (.ifCond .eq 18, 3) := by decide +kernel
theorem eX23_moveWrong_48 : decode cX23_moveWrong 48 = .ok (.aload_n 0, 1) := by decide +kernel
theorem eX23_moveWrong_49 : decode cX23_moveWrong 49 = .ok (.aload_n 0, 1) := by decide +kernel
theorem eX23_moveWrong_50 : decode cX23_moveWrong 50 = .ok (.getfield 838, 3) := by decide +kernel
theorem eX23_moveWrong_53 : decode cX23_moveWrong 53 = .ok (.iload_n 1, 1) := by decide +kernel
theorem eX23_moveWrong_54 : decode cX23_moveWrong 54 = .ok (.iload_n 3, 1) := by decide +kernel
theorem eX23_moveWrong_55 : decode cX23_moveWrong 55 = .ok (.aload_n 0, 1) := by decide +kernel
theorem eX23_moveWrong_56 : decode cX23_moveWrong 56 = .ok (.getfield 825, 3) := by decide +kernel
theorem eX23_moveWrong_59 : decode cX23_moveWrong 59 = .ok (.invokevirtual 866, 3) := by decide +kernel
theorem eX23_moveWrong_62 : decode cX23_moveWrong 62 = .ok (.ireturn, 1) := by decide +kernel
theorem eX23_moveWrong_63 : decode cX23_moveWrong 63 = .ok (.aload_n 0, 1) := by decide +kernel
theorem eX23_moveWrong_64 : decode cX23_moveWrong 64 = .ok (.getfield 656, 3) := by decide +kernel
theorem eX23_moveWrong_67 : decode cX23_moveWrong 67 = .ok (.iload_n 1, 1) := by decide +kernel
theorem eX23_moveWrong_68 : decode cX23_moveWrong 68 = .ok (.aaload, 1) := by decide +kernel
theorem eX23_moveWrong_69 : decode cX23_moveWrong 69 = .ok (.getfield 711, 3) := by decide +kernel
theorem eX23_moveWrong_72 : decode cX23_moveWrong 72 = .ok (.ifCond .ne 39, 3) := by decide +kernel
theorem eX23_moveWrong_75 : decode cX23_moveWrong 75 = .ok (.aload_n 0, 1) := by decide +kernel
theorem eX23_moveWrong_76 : decode cX23_moveWrong 76 = .ok (.getfield 656, 3) := by decide +kernel
theorem eX23_moveWrong_79 : decode cX23_moveWrong 79 = .ok (.iload_n 1, 1) := by decide +kernel
theorem eX23_moveWrong_80 : decode cX23_moveWrong 80 = .ok (.aaload, 1) := by decide +kernel
theorem eX23_moveWrong_81 : decode cX23_moveWrong 81 = .ok (.getfield 682, 3) := by decide +kernel
theorem eX23_moveWrong_84 : decode cX23_moveWrong 84 = .ok (.getfield 473, 3) := by decide +kernel
theorem eX23_moveWrong_87 : decode cX23_moveWrong 87 = .ok (.ifCond .ne 24, 3) := by decide +kernel
theorem eX23_moveWrong_90 : decode cX23_moveWrong 90 = .ok (.aload_n 0, 1) := by decide +kernel
theorem eX23_moveWrong_91 : decode cX23_moveWrong 91 = .ok (.aload_n 0, 1) := by decide +kernel
theorem eX23_moveWrong_92 : decode cX23_moveWrong 92 = .ok (.getfield 841, 3) := by decide +kernel
theorem eX23_moveWrong_95 : decode cX23_moveWrong 95 = .ok (.iload_n 1, 1) := by decide +kernel
theorem eX23_moveWrong_96 : decode cX23_moveWrong 96 = .ok (.iload_n 3, 1) := by decide +kernel
theorem eX23_moveWrong_97 : decode cX23_moveWrong 97 = .ok (.aload_n 0, 1) := by decide +kernel
theorem eX23_moveWrong_98 : decode cX23_moveWrong 98 = .ok (.getfield 825, 3) := by decide +kernel
theorem eX23_moveWrong_101 : decode cX23_moveWrong 101 = .ok (.invokevirtual 866, 3) := by decide +kernel
theorem eX23_moveWrong_104 : decode cX23_moveWrong 104 = .ok (.ifCond .eq 7, 3) := by decide +kernel
theorem eX23_moveWrong_107 : decode cX23_moveWrong 107 = .ok (.iconst 1, 1) := by decide +kernel
theorem eX23_moveWrong_108 : decode cX23_moveWrong 108 = .ok (.goto 4, 3) := by decide +kernel
theorem eX23_moveWrong_111 : decode cX23_moveWrong 111 = .ok (.iconst 0, 1) := by decide +kernel
theorem eX23_moveWrong_112 : decode cX23_moveWrong 112 = .ok (.ireturn, 1) := by decide +kernel
theorem eX23_checkMoves_0 : decode cX23_checkMoves 0 = .ok (.aload_n 0, 1) := by decide +kernel
theorem eX23_checkMoves_1 : decode cX23_checkMoves 1 = .ok (.aload_n 1, 1) := by decide +kernel
theorem eX23_checkMoves_2 : decode cX23_checkMoves 2 = .ok (.invokevirtual 870, 3) := by decide +kernel
theorem eX23_checkMoves_5 : decode cX23_checkMoves 5 = .ok (.iconst (-1), 1) := by decide +kernel
theorem eX23_checkMoves_6 : decode cX23_checkMoves 6 = .ok (.istore_n 2, 1) := by decide +kernel
theorem eX23_checkMoves_7 : decode cX23_checkMoves 7 = .ok (.aload_n 1, 1) := by decide +kernel
theorem eX23_checkMoves_8 : decode cX23_checkMoves 8 = .ok (.getfield 807, 3) := by decide +kernel
theorem eX23_checkMoves_11 : decode cX23_checkMoves 11 = .ok (.istore_n 3, 1) := by decide +kernel
theorem eX23_checkMoves_12 : decode cX23_checkMoves 12 = .ok (.iload_n 3, 1) := by decide +kernel
theorem eX23_checkMoves_13 : decode cX23_checkMoves 13 = .ok (.aload_n 1, 1) := by decide +kernel
theorem eX23_checkMoves_14 : decode cX23_checkMoves 14 = .ok (.getfield 813, 3) := by decide +kernel
theorem eX23_checkMoves_17 : decode cX23_checkMoves 17 = .ok (.if_icmp .ge 47, 3) := by decide +kernel
theorem eX23_checkMoves_20 : decode cX23_checkMoves 20 = .ok (.aload_n 0, 1) := by decide +kernel
theorem eX23_checkMoves_21 : decode cX23_checkMoves 21 = .ok (.getfield 814, 3) := by decide +kernel
theorem eX23_checkMoves_24 : decode cX23_checkMoves 24 = .ok (.iload_n 3, 1) := by decide +kernel
theorem eX23_checkMoves_25 : decode cX23_checkMoves 25 = .ok (.baload, 1) := by decide +kernel
theorem eX23_checkMoves_26 : decode cX23_checkMoves 26 = .ok (.ifCond .eq 32, 3) := by decide +kernel
theorem eX23_checkMoves_29 : decode cX23_checkMoves 29 = .ok (.aload_n 0, 1) := by decide +kernel
theorem eX23_checkMoves_30 : decode cX23_checkMoves 30 = .ok (.iload_n 3, 1) := by decide +kernel
theorem eX23_checkMoves_31 : decode cX23_checkMoves 31 = .ok (.invokevirtual 873, 3) := by decide +kernel
theorem eX23_checkMoves_34 : decode cX23_checkMoves 34 = .ok (.ifCond .eq 24, 3) := by decide +kernel
theorem eX23_checkMoves_37 : decode cX23_checkMoves 37 = .ok (.iload_n 2, 1) := by decide +kernel
theorem eX23_checkMoves_38 : decode cX23_checkMoves 38 = .ok (.ifCond .lt 13, 3) := by decide +kernel
theorem eX23_checkMoves_41 : decode cX23_checkMoves 41 = .ok (.aload_n 0, 1) := by decide +kernel
theorem eX23_checkMoves_42 : decode cX23_checkMoves 42 = .ok (.getfield 627, 3) := by decide +kernel
theorem eX23_checkMoves_45 : decode cX23_checkMoves 45 = .ok (.iload_n 3, 1) := by decide +kernel
theorem eX23_checkMoves_46 : decode cX23_checkMoves 46 = .ok (.iaload, 1) := by decide +kernel
theorem eX23_checkMoves_47 : decode cX23_checkMoves 47 = .ok (.iload_n 2, 1) := by decide +kernel
theorem eX23_checkMoves_48 : decode cX23_checkMoves 48 = .ok (.if_icmp .ge 10, 3) := by decide +kernel
theorem eX23_checkMoves_51 : decode cX23_checkMoves 51 = .ok (.aload_n 0, 1) := by decide +kernel
theorem eX23_checkMoves_52 : decode cX23_checkMoves 52 = .ok (.getfield 627, 3) := by decide +kernel
theorem eX23_checkMoves_55 : decode cX23_checkMoves 55 = .ok (.iload_n 3, 1) := by decide +kernel
theorem eX23_checkMoves_56 : decode cX23_checkMoves 56 = .ok (.iaload, 1) := by decide +kernel
theorem eX23_checkMoves_57 : decode cX23_checkMoves 57 = .ok (.istore_n 2, 1) := by decide +kernel
theorem eX23_checkMoves_58 : decode cX23_checkMoves 58 = .ok (.iinc 3 1, 3) := by decide +kernel
theorem eX23_checkMoves_61 : decode cX23_checkMoves 61 = .ok (.goto (-49), 3) := by decide +kernel
theorem eX23_checkMoves_64 : decode cX23_checkMoves 64 = .ok (.iload_n 2, 1) := by decide +kernel
theorem eX23_checkMoves_65 : decode cX23_checkMoves 65 = .ok (.ifCond .lt 9, 3) := by decide +kernel
theorem eX23_checkMoves_68 : decode cX23_checkMoves 68 = .ok (.aload_n 0, 1) := by decide +kernel
theorem eX23_checkMoves_69 : decode cX23_checkMoves 69 = .ok (.iconst 5, 1) := by decide +kernel
theorem eX23_checkMoves_70 : decode cX23_checkMoves 70 = .ok (.iload_n 2, 1) := by decide +kernel
theorem eX23_checkMoves_71 : decode cX23_checkMoves 71 = .ok (.invokevirtual 96, 3) := by decide +kernel
theorem eX23_checkMoves_74 : decode cX23_checkMoves 74 = .ok (.return_, 1) := by decide +kernel
theorem eX23_ahead_0 : decode cX23_ahead 0 = .ok (.iconst 0, 1) := by decide +kernel
theorem eX23_ahead_1 : decode cX23_ahead 1 = .ok (.istore_n 2, 1) := by decide +kernel
theorem eX23_ahead_2 : decode cX23_ahead 2 = .ok (.iload_n 2, 1) := by decide +kernel
theorem eX23_ahead_3 : decode cX23_ahead 3 = .ok (.iconst 4, 1) := by decide +kernel
theorem eX23_ahead_4 : decode cX23_ahead 4 = .ok (.if_icmp .ge 25, 3) := by decide +kernel
theorem eX23_ahead_7 : decode cX23_ahead 7 = .ok (.aload_n 0, 1) := by decide +kernel
theorem eX23_ahead_8 : decode cX23_ahead 8 = .ok (.getfield 881, 3) := by decide +kernel
theorem eX23_ahead_11 : decode cX23_ahead 11 = .ok (.iload_n 2, 1) := by decide +kernel
theorem eX23_ahead_12 : decode cX23_ahead 12 = .ok (.aload_n 0, 1) := by decide +kernel
theorem eX23_ahead_13 : decode cX23_ahead 13 = .ok (.getfield 876, 3) := by decide +kernel
theorem eX23_ahead_16 : decode cX23_ahead 16 = .ok (.iconst 4, 1) := by decide +kernel
theorem eX23_ahead_17 : decode cX23_ahead 17 = .ok (.iload_n 1, 1) := by decide +kernel
theorem eX23_ahead_18 : decode cX23_ahead 18 = .ok (.imul, 1) := by decide +kernel
theorem eX23_ahead_19 : decode cX23_ahead 19 = .ok (.iload_n 2, 1) := by decide +kernel
theorem eX23_ahead_20 : decode cX23_ahead 20 = .ok (.iadd, 1) := by decide +kernel
theorem eX23_ahead_21 : decode cX23_ahead 21 = .ok (.laload, 1) := by decide +kernel
theorem eX23_ahead_22 : decode cX23_ahead 22 = .ok (.lastore, 1) := by decide +kernel
theorem eX23_ahead_23 : decode cX23_ahead 23 = .ok (.iinc 2 1, 3) := by decide +kernel
theorem eX23_ahead_26 : decode cX23_ahead 26 = .ok (.goto (-24), 3) := by decide +kernel
theorem eX23_ahead_29 : decode cX23_ahead 29 = .ok (.aload_n 0, 1) := by decide +kernel
theorem eX23_ahead_30 : decode cX23_ahead 30 = .ok (.getfield 643, 3) := by decide +kernel
theorem eX23_ahead_33 : decode cX23_ahead 33 = .ok (.iload_n 1, 1) := by decide +kernel
theorem eX23_ahead_34 : decode cX23_ahead 34 = .ok (.iaload, 1) := by decide +kernel
theorem eX23_ahead_35 : decode cX23_ahead 35 = .ok (.ifCond .lt 18, 3) := by decide +kernel
theorem eX23_ahead_38 : decode cX23_ahead 38 = .ok (.aload_n 0, 1) := by decide +kernel
theorem eX23_ahead_39 : decode cX23_ahead 39 = .ok (.getfield 881, 3) := by decide +kernel
theorem eX23_ahead_42 : decode cX23_ahead 42 = .ok (.iconst 0, 1) := by decide +kernel
theorem eX23_ahead_43 : decode cX23_ahead 43 = .ok (.aload_n 0, 1) := by decide +kernel
theorem eX23_ahead_44 : decode cX23_ahead 44 = .ok (.getfield 643, 3) := by decide +kernel
theorem eX23_ahead_47 : decode cX23_ahead 47 = .ok (.iload_n 1, 1) := by decide +kernel
theorem eX23_ahead_48 : decode cX23_ahead 48 = .ok (.iaload, 1) := by decide +kernel
theorem eX23_ahead_49 : decode cX23_ahead 49 = .ok (.iconst 0, 1) := by decide +kernel
theorem eX23_ahead_50 : decode cX23_ahead 50 = .ok (.invokestatic 831, 3) := by decide +kernel
theorem eX23_ahead_53 : decode cX23_ahead 53 = .ok (.iconst 0, 1) := by decide +kernel
theorem eX23_ahead_54 : decode cX23_ahead 54 = .ok (.istore_n 2, 1) := by decide +kernel
theorem eX23_ahead_55 : decode cX23_ahead 55 = .ok (.aload_n 0, 1) := by decide +kernel
theorem eX23_ahead_56 : decode cX23_ahead 56 = .ok (.getfield 653, 3) := by decide +kernel
theorem eX23_ahead_59 : decode cX23_ahead 59 = .ok (.iload_n 1, 1) := by decide +kernel
theorem eX23_ahead_60 : decode cX23_ahead 60 = .ok (.aaload, 1) := by decide +kernel
theorem eX23_ahead_61 : decode cX23_ahead 61 = .ok (.ifnull 37, 3) := by decide +kernel
theorem eX23_ahead_64 : decode cX23_ahead 64 = .ok (.iload_n 2, 1) := by decide +kernel
theorem eX23_ahead_65 : decode cX23_ahead 65 = .ok (.aload_n 0, 1) := by decide +kernel
theorem eX23_ahead_66 : decode cX23_ahead 66 = .ok (.getfield 653, 3) := by decide +kernel
theorem eX23_ahead_69 : decode cX23_ahead 69 = .ok (.iload_n 1, 1) := by decide +kernel
theorem eX23_ahead_70 : decode cX23_ahead 70 = .ok (.aaload, 1) := by decide +kernel
theorem eX23_ahead_71 : decode cX23_ahead 71 = .ok (.arraylength, 1) := by decide +kernel
theorem eX23_ahead_72 : decode cX23_ahead 72 = .ok (.if_icmp .ge 26, 3) := by decide +kernel
theorem eX23_ahead_75 : decode cX23_ahead 75 = .ok (.aload_n 0, 1) := by decide +kernel
theorem eX23_ahead_76 : decode cX23_ahead 76 = .ok (.getfield 881, 3) := by decide +kernel
theorem eX23_ahead_79 : decode cX23_ahead 79 = .ok (.iconst 0, 1) := by decide +kernel
theorem eX23_ahead_80 : decode cX23_ahead 80 = .ok (.aload_n 0, 1) := by decide +kernel
theorem eX23_ahead_81 : decode cX23_ahead 81 = .ok (.getfield 653, 3) := by decide +kernel
theorem eX23_ahead_84 : decode cX23_ahead 84 = .ok (.iload_n 1, 1) := by decide +kernel
theorem eX23_ahead_85 : decode cX23_ahead 85 = .ok (.aaload, 1) := by decide +kernel
theorem eX23_ahead_86 : decode cX23_ahead 86 = .ok (.iload_n 2, 1) := by decide +kernel
theorem eX23_ahead_87 : decode cX23_ahead 87 = .ok (.iaload, 1) := by decide +kernel
theorem eX23_ahead_88 : decode cX23_ahead 88 = .ok (.iconst 1, 1) := by decide +kernel
theorem eX23_ahead_89 : decode cX23_ahead 89 = .ok (.invokestatic 831, 3) := by decide +kernel
theorem eX23_ahead_92 : decode cX23_ahead 92 = .ok (.iinc 2 1, 3) := by decide +kernel
theorem eX23_ahead_95 : decode cX23_ahead 95 = .ok (.goto (-40), 3) := by decide +kernel
theorem eX23_ahead_98 : decode cX23_ahead 98 = .ok (.return_, 1) := by decide +kernel
theorem eX23_spreadLives_0 : decode cX23_spreadLives 0 = .ok (.iconst 4, 1) := by decide +kernel
theorem eX23_spreadLives_1 : decode cX23_spreadLives 1 = .ok (.aload_n 1, 1) := by decide +kernel
theorem eX23_spreadLives_2 : decode cX23_spreadLives 2 = .ok (.getfield 807, 3) := by decide +kernel
theorem eX23_spreadLives_5 : decode cX23_spreadLives 5 = .ok (.imul, 1) := by decide +kernel
theorem eX23_spreadLives_6 : decode cX23_spreadLives 6 = .ok (.istore_n 2, 1) := by decide +kernel
theorem eX23_spreadLives_7 : decode cX23_spreadLives 7 = .ok (.iload_n 2, 1) := by decide +kernel
theorem eX23_spreadLives_8 : decode cX23_spreadLives 8 = .ok (.iconst 4, 1) := by decide +kernel
theorem eX23_spreadLives_9 : decode cX23_spreadLives 9 = .ok (.aload_n 1, 1) := by decide +kernel
theorem eX23_spreadLives_10 : decode cX23_spreadLives 10 = .ok (.getfield 813, 3) := by decide +kernel
theorem eX23_spreadLives_13 : decode cX23_spreadLives 13 = .ok (.imul, 1) := by decide +kernel
theorem eX23_spreadLives_14 : decode cX23_spreadLives 14 = .ok (.if_icmp .ge 16, 3) := by decide +kernel
theorem eX23_spreadLives_17 : decode cX23_spreadLives 17 = .ok (.aload_n 0, 1) := by decide +kernel
theorem eX23_spreadLives_18 : decode cX23_spreadLives 18 = .ok (.getfield 876, 3) := by decide +kernel
theorem eX23_spreadLives_21 : decode cX23_spreadLives 21 = .ok (.iload_n 2, 1) := by decide +kernel
theorem eX23_spreadLives_22 : decode cX23_spreadLives 22 = .ok (.lconst 0, 1) := by decide +kernel
theorem eX23_spreadLives_23 : decode cX23_spreadLives 23 = .ok (.lastore, 1) := by decide +kernel
theorem eX23_spreadLives_24 : decode cX23_spreadLives 24 = .ok (.iinc 2 1, 3) := by decide +kernel
theorem eX23_spreadLives_27 : decode cX23_spreadLives 27 = .ok (.goto (-20), 3) := by decide +kernel
theorem eX23_spreadLives_30 : decode cX23_spreadLives 30 = .ok (.iconst 1, 1) := by decide +kernel
theorem eX23_spreadLives_31 : decode cX23_spreadLives 31 = .ok (.istore_n 2, 1) := by decide +kernel
theorem eX23_spreadLives_32 : decode cX23_spreadLives 32 = .ok (.iload_n 2, 1) := by decide +kernel
theorem eX23_spreadLives_33 : decode cX23_spreadLives 33 = .ok (.ifCond .eq 127, 3) := by decide +kernel
theorem eX23_spreadLives_36 : decode cX23_spreadLives 36 = .ok (.iconst 0, 1) := by decide +kernel
theorem eX23_spreadLives_37 : decode cX23_spreadLives 37 = .ok (.istore_n 2, 1) := by decide +kernel
theorem eX23_spreadLives_38 : decode cX23_spreadLives 38 = .ok (.aload_n 1, 1) := by decide +kernel
theorem eX23_spreadLives_39 : decode cX23_spreadLives 39 = .ok (.getfield 813, 3) := by decide +kernel
theorem eX23_spreadLives_42 : decode cX23_spreadLives 42 = .ok (.iconst 1, 1) := by decide +kernel
theorem eX23_spreadLives_43 : decode cX23_spreadLives 43 = .ok (.isub, 1) := by decide +kernel
theorem eX23_spreadLives_44 : decode cX23_spreadLives 44 = .ok (.istore_n 3, 1) := by decide +kernel
theorem eX23_spreadLives_45 : decode cX23_spreadLives 45 = .ok (.iload_n 3, 1) := by decide +kernel
theorem eX23_spreadLives_46 : decode cX23_spreadLives 46 = .ok (.aload_n 1, 1) := by decide +kernel
theorem eX23_spreadLives_47 : decode cX23_spreadLives 47 = .ok (.getfield 807, 3) := by decide +kernel
theorem eX23_spreadLives_50 : decode cX23_spreadLives 50 = .ok (.if_icmp .lt 107, 3) := by decide +kernel
theorem eX23_spreadLives_53 : decode cX23_spreadLives 53 = .ok (.iconst 0, 1) := by decide +kernel
theorem eX23_spreadLives_54 : decode cX23_spreadLives 54 = .ok (.istore 4, 2) := by decide +kernel
theorem eX23_spreadLives_56 : decode cX23_spreadLives 56 = .ok (.aload_n 0, 1) := by decide +kernel
theorem eX23_spreadLives_57 : decode cX23_spreadLives 57 = .ok (.iload_n 3, 1) := by decide +kernel
theorem eX23_spreadLives_58 : decode cX23_spreadLives 58 = .ok (.iload 4, 2) := by decide +kernel
theorem eX23_spreadLives_60 : decode cX23_spreadLives 60 = .ok (.invokevirtual 817, 3) := by decide +kernel
theorem eX23_spreadLives_63 : decode cX23_spreadLives 63 = .ok (.ifCond .lt 88, 3) := by decide +kernel
theorem eX23_spreadLives_66 : decode cX23_spreadLives 66 = .ok (.aload_n 0, 1) := by decide +kernel
theorem eX23_spreadLives_67 : decode cX23_spreadLives 67 = .ok (.aload_n 0, 1) := by decide +kernel
theorem eX23_spreadLives_68 : decode cX23_spreadLives 68 = .ok (.iload_n 3, 1) := by decide +kernel
theorem eX23_spreadLives_69 : decode cX23_spreadLives 69 = .ok (.iload 4, 2) := by decide +kernel
theorem eX23_spreadLives_71 : decode cX23_spreadLives 71 = .ok (.invokevirtual 817, 3) := by decide +kernel
theorem eX23_spreadLives_74 : decode cX23_spreadLives 74 = .ok (.invokevirtual 878, 3) := by decide +kernel
theorem eX23_spreadLives_77 : decode cX23_spreadLives 77 = .ok (.iconst 0, 1) := by decide +kernel
theorem eX23_spreadLives_78 : decode cX23_spreadLives 78 = .ok (.istore 5, 2) := by decide +kernel
theorem eX23_spreadLives_80 : decode cX23_spreadLives 80 = .ok (.iload 5, 2) := by decide +kernel
theorem eX23_spreadLives_82 : decode cX23_spreadLives 82 = .ok (.iconst 4, 1) := by decide +kernel
theorem eX23_spreadLives_83 : decode cX23_spreadLives 83 = .ok (.if_icmp .ge 62, 3) := by decide +kernel
theorem eX23_spreadLives_86 : decode cX23_spreadLives 86 = .ok (.aload_n 0, 1) := by decide +kernel
theorem eX23_spreadLives_87 : decode cX23_spreadLives 87 = .ok (.getfield 876, 3) := by decide +kernel
theorem eX23_spreadLives_90 : decode cX23_spreadLives 90 = .ok (.iconst 4, 1) := by decide +kernel
theorem eX23_spreadLives_91 : decode cX23_spreadLives 91 = .ok (.iload_n 3, 1) := by decide +kernel
theorem eX23_spreadLives_92 : decode cX23_spreadLives 92 = .ok (.imul, 1) := by decide +kernel
theorem eX23_spreadLives_93 : decode cX23_spreadLives 93 = .ok (.iload 5, 2) := by decide +kernel
theorem eX23_spreadLives_95 : decode cX23_spreadLives 95 = .ok (.iadd, 1) := by decide +kernel
theorem eX23_spreadLives_96 : decode cX23_spreadLives 96 = .ok (.laload, 1) := by decide +kernel
theorem eX23_spreadLives_97 : decode cX23_spreadLives 97 = .ok (.aload_n 0, 1) := by decide +kernel
theorem eX23_spreadLives_98 : decode cX23_spreadLives 98 = .ok (.getfield 881, 3) := by decide +kernel
theorem eX23_spreadLives_101 : decode cX23_spreadLives 101 = .ok (.iload 5, 2) := by decide +kernel
theorem eX23_spreadLives_103 : decode cX23_spreadLives 103 = .ok (.laload, 1) := by decide +kernel
theorem eX23_spreadLives_104 : decode cX23_spreadLives 104 = .ok (.lor, 1) := by decide +kernel
theorem eX23_spreadLives_105 : decode cX23_spreadLives 105 = .ok (.lstore 6, 2) := by decide +kernel
theorem eX23_spreadLives_107 : decode cX23_spreadLives 107 = .ok (.lload 6, 2) := by decide +kernel
theorem eX23_spreadLives_109 : decode cX23_spreadLives 109 = .ok (.aload_n 0, 1) := by decide +kernel
theorem eX23_spreadLives_110 : decode cX23_spreadLives 110 = .ok (.getfield 876, 3) := by decide +kernel
theorem eX23_spreadLives_113 : decode cX23_spreadLives 113 = .ok (.iconst 4, 1) := by decide +kernel
theorem eX23_spreadLives_114 : decode cX23_spreadLives 114 = .ok (.iload_n 3, 1) := by decide +kernel
theorem eX23_spreadLives_115 : decode cX23_spreadLives 115 = .ok (.imul, 1) := by decide +kernel
theorem eX23_spreadLives_116 : decode cX23_spreadLives 116 = .ok (.iload 5, 2) := by decide +kernel
theorem eX23_spreadLives_118 : decode cX23_spreadLives 118 = .ok (.iadd, 1) := by decide +kernel
theorem eX23_spreadLives_119 : decode cX23_spreadLives 119 = .ok (.laload, 1) := by decide +kernel
theorem eX23_spreadLives_120 : decode cX23_spreadLives 120 = .ok (.lcmp, 1) := by decide +kernel
theorem eX23_spreadLives_121 : decode cX23_spreadLives 121 = .ok (.ifCond .eq 5, 3) := by decide +kernel
theorem eX23_spreadLives_124 : decode cX23_spreadLives 124 = .ok (.iconst 1, 1) := by decide +kernel
theorem eX23_spreadLives_125 : decode cX23_spreadLives 125 = .ok (.istore_n 2, 1) := by decide +kernel
theorem eX23_spreadLives_126 : decode cX23_spreadLives 126 = .ok (.aload_n 0, 1) := by decide +kernel
theorem eX23_spreadLives_127 : decode cX23_spreadLives 127 = .ok (.getfield 876, 3) := by decide +kernel
theorem eX23_spreadLives_130 : decode cX23_spreadLives 130 = .ok (.iconst 4, 1) := by decide +kernel
theorem eX23_spreadLives_131 : decode cX23_spreadLives 131 = .ok (.iload_n 3, 1) := by decide +kernel
theorem eX23_spreadLives_132 : decode cX23_spreadLives 132 = .ok (.imul, 1) := by decide +kernel
theorem eX23_spreadLives_133 : decode cX23_spreadLives 133 = .ok (.iload 5, 2) := by decide +kernel
theorem eX23_spreadLives_135 : decode cX23_spreadLives 135 = .ok (.iadd, 1) := by decide +kernel
theorem eX23_spreadLives_136 : decode cX23_spreadLives 136 = .ok (.lload 6, 2) := by decide +kernel
theorem eX23_spreadLives_138 : decode cX23_spreadLives 138 = .ok (.lastore, 1) := by decide +kernel
theorem eX23_spreadLives_139 : decode cX23_spreadLives 139 = .ok (.iinc 5 1, 3) := by decide +kernel
theorem eX23_spreadLives_142 : decode cX23_spreadLives 142 = .ok (.goto (-62), 3) := by decide +kernel
theorem eX23_spreadLives_145 : decode cX23_spreadLives 145 = .ok (.iinc 4 1, 3) := by decide +kernel
theorem eX23_spreadLives_148 : decode cX23_spreadLives 148 = .ok (.goto (-92), 3) := by decide +kernel
theorem eX23_spreadLives_151 : decode cX23_spreadLives 151 = .ok (.iinc 3 (-1), 3) := by decide +kernel
theorem eX23_spreadLives_154 : decode cX23_spreadLives 154 = .ok (.goto (-109), 3) := by decide +kernel
theorem eX23_spreadLives_157 : decode cX23_spreadLives 157 = .ok (.goto (-125), 3) := by decide +kernel
theorem eX23_spreadLives_160 : decode cX23_spreadLives 160 = .ok (.return_, 1) := by decide +kernel
theorem eX23_holdBehind_0 : decode cX23_holdBehind 0 = .ok (.iconst 0, 1) := by decide +kernel
theorem eX23_holdBehind_1 : decode cX23_holdBehind 1 = .ok (.istore_n 3, 1) := by decide +kernel
theorem eX23_holdBehind_2 : decode cX23_holdBehind 2 = .ok (.iload_n 3, 1) := by decide +kernel
theorem eX23_holdBehind_3 : decode cX23_holdBehind 3 = .ok (.iconst 4, 1) := by decide +kernel
theorem eX23_holdBehind_4 : decode cX23_holdBehind 4 = .ok (.if_icmp .ge 25, 3) := by decide +kernel
theorem eX23_holdBehind_7 : decode cX23_holdBehind 7 = .ok (.aload_n 0, 1) := by decide +kernel
theorem eX23_holdBehind_8 : decode cX23_holdBehind 8 = .ok (.getfield 881, 3) := by decide +kernel
theorem eX23_holdBehind_11 : decode cX23_holdBehind 11 = .ok (.iload_n 3, 1) := by decide +kernel
theorem eX23_holdBehind_12 : decode cX23_holdBehind 12 = .ok (.aload_n 0, 1) := by decide +kernel
theorem eX23_holdBehind_13 : decode cX23_holdBehind 13 = .ok (.getfield 884, 3) := by decide +kernel
theorem eX23_holdBehind_16 : decode cX23_holdBehind 16 = .ok (.iconst 4, 1) := by decide +kernel
theorem eX23_holdBehind_17 : decode cX23_holdBehind 17 = .ok (.iload_n 1, 1) := by decide +kernel
theorem eX23_holdBehind_18 : decode cX23_holdBehind 18 = .ok (.imul, 1) := by decide +kernel
theorem eX23_holdBehind_19 : decode cX23_holdBehind 19 = .ok (.iload_n 3, 1) := by decide +kernel
theorem eX23_holdBehind_20 : decode cX23_holdBehind 20 = .ok (.iadd, 1) := by decide +kernel
theorem eX23_holdBehind_21 : decode cX23_holdBehind 21 = .ok (.laload, 1) := by decide +kernel
theorem eX23_holdBehind_22 : decode cX23_holdBehind 22 = .ok (.lastore, 1) := by decide +kernel
theorem eX23_holdBehind_23 : decode cX23_holdBehind 23 = .ok (.iinc 3 1, 3) := by decide +kernel
theorem eX23_holdBehind_26 : decode cX23_holdBehind 26 = .ok (.goto (-24), 3) := by decide +kernel
theorem eX23_holdBehind_29 : decode cX23_holdBehind 29 = .ok (.aload_n 0, 1) := by decide +kernel
theorem eX23_holdBehind_30 : decode cX23_holdBehind 30 = .ok (.getfield 643, 3) := by decide +kernel
theorem eX23_holdBehind_33 : decode cX23_holdBehind 33 = .ok (.iload_n 1, 1) := by decide +kernel
theorem eX23_holdBehind_34 : decode cX23_holdBehind 34 = .ok (.iaload, 1) := by decide +kernel
theorem eX23_holdBehind_35 : decode cX23_holdBehind 35 = .ok (.ifCond .ge 4, 3) := by decide +kernel
theorem eX23_holdBehind_38 : decode cX23_holdBehind 38 = .ok (.return_, 1) := by decide +kernel
theorem eX23_holdBehind_39 : decode cX23_holdBehind 39 = .ok (.aload_n 0, 1) := by decide +kernel
theorem eX23_holdBehind_40 : decode cX23_holdBehind 40 = .ok (.getfield 646, 3) := by decide +kernel
theorem eX23_holdBehind_43 : decode cX23_holdBehind 43 = .ok (.iload_n 1, 1) := by decide +kernel
theorem eX23_holdBehind_44 : decode cX23_holdBehind 44 = .ok (.iaload, 1) := by decide +kernel
theorem eX23_holdBehind_45 : decode cX23_holdBehind 45 = .ok (.iload_n 2, 1) := by decide +kernel
theorem eX23_holdBehind_46 : decode cX23_holdBehind 46 = .ok (.if_icmp .ne 7, 3) := by decide +kernel
theorem eX23_holdBehind_49 : decode cX23_holdBehind 49 = .ok (.iconst 1, 1) := by decide +kernel
theorem eX23_holdBehind_50 : decode cX23_holdBehind 50 = .ok (.goto 4, 3) := by decide +kernel
theorem eX23_holdBehind_53 : decode cX23_holdBehind 53 = .ok (.iconst 0, 1) := by decide +kernel
theorem eX23_holdBehind_54 : decode cX23_holdBehind 54 = .ok (.istore_n 3, 1) := by decide +kernel
theorem eX23_holdBehind_55 : decode cX23_holdBehind 55 = .ok (.iconst 0, 1) := by decide +kernel
theorem eX23_holdBehind_56 : decode cX23_holdBehind 56 = .ok (.istore 4, 2) := by decide +kernel
theorem eX23_holdBehind_58 : decode cX23_holdBehind 58 = .ok (.aload_n 0, 1) := by decide +kernel
theorem eX23_holdBehind_59 : decode cX23_holdBehind 59 = .ok (.getfield 625, 3) := by decide +kernel
theorem eX23_holdBehind_62 : decode cX23_holdBehind 62 = .ok (.iload_n 1, 1) := by decide +kernel
theorem eX23_holdBehind_63 : decode cX23_holdBehind 63 = .ok (.iaload, 1) := by decide +kernel
theorem eX23_holdBehind_64 : decode cX23_holdBehind 64 = .ok (.bipush 24, 2) := by decide +kernel
theorem eX23_holdBehind_66 : decode cX23_holdBehind 66 = .ok (.if_icmp .eq 54, 3) := by decide +kernel
theorem eX23_holdBehind_69 : decode cX23_holdBehind 69 = .ok (.aload_n 0, 1) := by decide +kernel
theorem eX23_holdBehind_70 : decode cX23_holdBehind 70 = .ok (.getfield 649, 3) := by decide +kernel
theorem eX23_holdBehind_73 : decode cX23_holdBehind 73 = .ok (.iload_n 1, 1) := by decide +kernel
theorem eX23_holdBehind_74 : decode cX23_holdBehind 74 = .ok (.aaload, 1) := by decide +kernel
theorem eX23_holdBehind_75 : decode cX23_holdBehind 75 = .ok (.ifnull 45, 3) := by decide +kernel
theorem eX23_holdBehind_78 : decode cX23_holdBehind 78 = .ok (.iload 4, 2) := by decide +kernel
theorem eX23_holdBehind_80 : decode cX23_holdBehind 80 = .ok (.aload_n 0, 1) := by decide +kernel
theorem eX23_holdBehind_81 : decode cX23_holdBehind 81 = .ok (.getfield 649, 3) := by decide +kernel
theorem eX23_holdBehind_84 : decode cX23_holdBehind 84 = .ok (.iload_n 1, 1) := by decide +kernel
theorem eX23_holdBehind_85 : decode cX23_holdBehind 85 = .ok (.aaload, 1) := by decide +kernel
theorem eX23_holdBehind_86 : decode cX23_holdBehind 86 = .ok (.arraylength, 1) := by decide +kernel
theorem eX23_holdBehind_87 : decode cX23_holdBehind 87 = .ok (.if_icmp .ge 33, 3) := by decide +kernel
theorem eX23_holdBehind_90 : decode cX23_holdBehind 90 = .ok (.aload_n 0, 1) := by decide +kernel
theorem eX23_holdBehind_91 : decode cX23_holdBehind 91 = .ok (.getfield 884, 3) := by decide +kernel
theorem eX23_holdBehind_94 : decode cX23_holdBehind 94 = .ok (.iconst 4, 1) := by decide +kernel
theorem eX23_holdBehind_95 : decode cX23_holdBehind 95 = .ok (.iload_n 1, 1) := by decide +kernel
theorem eX23_holdBehind_96 : decode cX23_holdBehind 96 = .ok (.imul, 1) := by decide +kernel
theorem eX23_holdBehind_97 : decode cX23_holdBehind 97 = .ok (.aload_n 0, 1) := by decide +kernel
theorem eX23_holdBehind_98 : decode cX23_holdBehind 98 = .ok (.getfield 649, 3) := by decide +kernel
theorem eX23_holdBehind_101 : decode cX23_holdBehind 101 = .ok (.iload_n 1, 1) := by decide +kernel
theorem eX23_holdBehind_102 : decode cX23_holdBehind 102 = .ok (.aaload, 1) := by decide +kernel
theorem eX23_holdBehind_103 : decode cX23_holdBehind 103 = .ok (.iload 4, 2) := by decide +kernel
theorem eX23_holdBehind_105 : decode cX23_holdBehind 105 = .ok (.iaload, 1) := by decide +kernel
theorem eX23_holdBehind_106 : decode cX23_holdBehind 106 = .ok (.invokestatic 862, 3) := by decide +kernel
theorem eX23_holdBehind_109 : decode cX23_holdBehind 109 = .ok (.ifCond .eq 5, 3) := by decide +kernel
theorem eX23_holdBehind_112 : decode cX23_holdBehind 112 = .ok (.iconst 1, 1) := by decide +kernel
theorem eX23_holdBehind_113 : decode cX23_holdBehind 113 = .ok (.istore_n 3, 1) := by decide +kernel
theorem eX23_holdBehind_114 : decode cX23_holdBehind 114 = .ok (.iinc 4 1, 3) := by decide +kernel
theorem eX23_holdBehind_117 : decode cX23_holdBehind 117 = .ok (.goto (-59), 3) := by decide +kernel
theorem eX23_holdBehind_120 : decode cX23_holdBehind 120 = .ok (.aload_n 0, 1) := by decide +kernel
theorem eX23_holdBehind_121 : decode cX23_holdBehind 121 = .ok (.getfield 881, 3) := by decide +kernel
theorem eX23_holdBehind_124 : decode cX23_holdBehind 124 = .ok (.iconst 0, 1) := by decide +kernel
theorem eX23_holdBehind_125 : decode cX23_holdBehind 125 = .ok (.aload_n 0, 1) := by decide +kernel
theorem eX23_holdBehind_126 : decode cX23_holdBehind 126 = .ok (.getfield 643, 3) := by decide +kernel
theorem eX23_holdBehind_129 : decode cX23_holdBehind 129 = .ok (.iload_n 1, 1) := by decide +kernel
theorem eX23_holdBehind_130 : decode cX23_holdBehind 130 = .ok (.iaload, 1) := by decide +kernel
theorem eX23_holdBehind_131 : decode cX23_holdBehind 131 = .ok (.iload_n 3, 1) := by decide +kernel
theorem eX23_holdBehind_132 : decode cX23_holdBehind 132 = .ok (.invokestatic 831, 3) := by decide +kernel
theorem eX23_holdBehind_135 : decode cX23_holdBehind 135 = .ok (.return_, 1) := by decide +kernel
theorem eX23_spreadLoan_0 : decode cX23_spreadLoan 0 = .ok (.iconst 4, 1) := by decide +kernel
theorem eX23_spreadLoan_1 : decode cX23_spreadLoan 1 = .ok (.aload_n 1, 1) := by decide +kernel
theorem eX23_spreadLoan_2 : decode cX23_spreadLoan 2 = .ok (.getfield 807, 3) := by decide +kernel
theorem eX23_spreadLoan_5 : decode cX23_spreadLoan 5 = .ok (.imul, 1) := by decide +kernel
theorem eX23_spreadLoan_6 : decode cX23_spreadLoan 6 = .ok (.istore_n 3, 1) := by decide +kernel
theorem eX23_spreadLoan_7 : decode cX23_spreadLoan 7 = .ok (.iload_n 3, 1) := by decide +kernel
theorem eX23_spreadLoan_8 : decode cX23_spreadLoan 8 = .ok (.iconst 4, 1) := by decide +kernel
theorem eX23_spreadLoan_9 : decode cX23_spreadLoan 9 = .ok (.aload_n 1, 1) := by decide +kernel
theorem eX23_spreadLoan_10 : decode cX23_spreadLoan 10 = .ok (.getfield 813, 3) := by decide +kernel
theorem eX23_spreadLoan_13 : decode cX23_spreadLoan 13 = .ok (.imul, 1) := by decide +kernel
theorem eX23_spreadLoan_14 : decode cX23_spreadLoan 14 = .ok (.if_icmp .ge 16, 3) := by decide +kernel
theorem eX23_spreadLoan_17 : decode cX23_spreadLoan 17 = .ok (.aload_n 0, 1) := by decide +kernel
theorem eX23_spreadLoan_18 : decode cX23_spreadLoan 18 = .ok (.getfield 884, 3) := by decide +kernel
theorem eX23_spreadLoan_21 : decode cX23_spreadLoan 21 = .ok (.iload_n 3, 1) := by decide +kernel
theorem eX23_spreadLoan_22 : decode cX23_spreadLoan 22 = .ok (.lconst 0, 1) := by decide +kernel
theorem eX23_spreadLoan_23 : decode cX23_spreadLoan 23 = .ok (.lastore, 1) := by decide +kernel
theorem eX23_spreadLoan_24 : decode cX23_spreadLoan 24 = .ok (.iinc 3 1, 3) := by decide +kernel
theorem eX23_spreadLoan_27 : decode cX23_spreadLoan 27 = .ok (.goto (-20), 3) := by decide +kernel
theorem eX23_spreadLoan_30 : decode cX23_spreadLoan 30 = .ok (.aload_n 0, 1) := by decide +kernel
theorem eX23_spreadLoan_31 : decode cX23_spreadLoan 31 = .ok (.getfield 729, 3) := by decide +kernel
theorem eX23_spreadLoan_34 : decode cX23_spreadLoan 34 = .ok (.iload_n 2, 1) := by decide +kernel
theorem eX23_spreadLoan_35 : decode cX23_spreadLoan 35 = .ok (.iaload, 1) := by decide +kernel
theorem eX23_spreadLoan_36 : decode cX23_spreadLoan 36 = .ok (.ifCond .lt 23, 3) := by decide +kernel
theorem eX23_spreadLoan_39 : decode cX23_spreadLoan 39 = .ok (.aload_n 0, 1) := by decide +kernel
theorem eX23_spreadLoan_40 : decode cX23_spreadLoan 40 = .ok (.getfield 884, 3) := by decide +kernel
theorem eX23_spreadLoan_43 : decode cX23_spreadLoan 43 = .ok (.iconst 4, 1) := by decide +kernel
theorem eX23_spreadLoan_44 : decode cX23_spreadLoan 44 = .ok (.aload_n 1, 1) := by decide +kernel
theorem eX23_spreadLoan_45 : decode cX23_spreadLoan 45 = .ok (.getfield 807, 3) := by decide +kernel
theorem eX23_spreadLoan_48 : decode cX23_spreadLoan 48 = .ok (.imul, 1) := by decide +kernel
theorem eX23_spreadLoan_49 : decode cX23_spreadLoan 49 = .ok (.aload_n 0, 1) := by decide +kernel
theorem eX23_spreadLoan_50 : decode cX23_spreadLoan 50 = .ok (.getfield 729, 3) := by decide +kernel
theorem eX23_spreadLoan_53 : decode cX23_spreadLoan 53 = .ok (.iload_n 2, 1) := by decide +kernel
theorem eX23_spreadLoan_54 : decode cX23_spreadLoan 54 = .ok (.iaload, 1) := by decide +kernel
theorem eX23_spreadLoan_55 : decode cX23_spreadLoan 55 = .ok (.iconst 1, 1) := by decide +kernel
theorem eX23_spreadLoan_56 : decode cX23_spreadLoan 56 = .ok (.invokestatic 831, 3) := by decide +kernel
theorem eX23_spreadLoan_59 : decode cX23_spreadLoan 59 = .ok (.iconst 1, 1) := by decide +kernel
theorem eX23_spreadLoan_60 : decode cX23_spreadLoan 60 = .ok (.istore_n 3, 1) := by decide +kernel
theorem eX23_spreadLoan_61 : decode cX23_spreadLoan 61 = .ok (.iload_n 3, 1) := by decide +kernel
theorem eX23_spreadLoan_62 : decode cX23_spreadLoan 62 = .ok (.ifCond .eq 153, 3) := by decide +kernel
theorem eX23_spreadLoan_65 : decode cX23_spreadLoan 65 = .ok (.iconst 0, 1) := by decide +kernel
theorem eX23_spreadLoan_66 : decode cX23_spreadLoan 66 = .ok (.istore_n 3, 1) := by decide +kernel
theorem eX23_spreadLoan_67 : decode cX23_spreadLoan 67 = .ok (.aload_n 1, 1) := by decide +kernel
theorem eX23_spreadLoan_68 : decode cX23_spreadLoan 68 = .ok (.getfield 807, 3) := by decide +kernel
theorem eX23_spreadLoan_71 : decode cX23_spreadLoan 71 = .ok (.istore 4, 2) := by decide +kernel
theorem eX23_spreadLoan_73 : decode cX23_spreadLoan 73 = .ok (.iload 4, 2) := by decide +kernel
theorem eX23_spreadLoan_75 : decode cX23_spreadLoan 75 = .ok (.aload_n 1, 1) := by decide +kernel
theorem eX23_spreadLoan_76 : decode cX23_spreadLoan 76 = .ok (.getfield 813, 3) := by decide +kernel
theorem eX23_spreadLoan_79 : decode cX23_spreadLoan 79 = .ok (.if_icmp .ge 133, 3) := by decide +kernel
theorem eX23_spreadLoan_82 : decode cX23_spreadLoan 82 = .ok (.aload_n 0, 1) := by decide +kernel
theorem eX23_spreadLoan_83 : decode cX23_spreadLoan 83 = .ok (.getfield 814, 3) := by decide +kernel
theorem eX23_spreadLoan_86 : decode cX23_spreadLoan 86 = .ok (.iload 4, 2) := by decide +kernel
theorem eX23_spreadLoan_88 : decode cX23_spreadLoan 88 = .ok (.baload, 1) := by decide +kernel
theorem eX23_spreadLoan_89 : decode cX23_spreadLoan 89 = .ok (.ifCond .eq 10, 3) := by decide +kernel
theorem eX23_spreadLoan_92 : decode cX23_spreadLoan 92 = .ok (.aload_n 0, 1) := by decide +kernel
theorem eX23_spreadLoan_93 : decode cX23_spreadLoan 93 = .ok (.iload 4, 2) := by decide +kernel
theorem eX23_spreadLoan_95 : decode cX23_spreadLoan 95 = .ok (.iload_n 2, 1) := by decide +kernel
theorem eX23_spreadLoan_96 : decode cX23_spreadLoan 96 = .ok (.invokevirtual 887, 3) := by decide +kernel
theorem eX23_spreadLoan_99 : decode cX23_spreadLoan 99 = .ok (.iconst 0, 1) := by decide +kernel
theorem eX23_spreadLoan_100 : decode cX23_spreadLoan 100 = .ok (.istore 5, 2) := by decide +kernel
theorem eX23_spreadLoan_102 : decode cX23_spreadLoan 102 = .ok (.aload_n 0, 1) := by decide +kernel
theorem eX23_spreadLoan_103 : decode cX23_spreadLoan 103 = .ok (.getfield 814, 3) := by decide +kernel
theorem eX23_spreadLoan_106 : decode cX23_spreadLoan 106 = .ok (.iload 4, 2) := by decide +kernel
theorem eX23_spreadLoan_108 : decode cX23_spreadLoan 108 = .ok (.baload, 1) := by decide +kernel
theorem eX23_spreadLoan_109 : decode cX23_spreadLoan 109 = .ok (.ifCond .eq 97, 3) := by decide +kernel
theorem eX23_spreadLoan_112 : decode cX23_spreadLoan 112 = .ok (.aload_n 0, 1) := by decide +kernel
theorem eX23_spreadLoan_113 : decode cX23_spreadLoan 113 = .ok (.iload 4, 2) := by decide +kernel
theorem eX23_spreadLoan_115 : decode cX23_spreadLoan 115 = .ok (.iload 5, 2) := by decide +kernel
theorem eX23_spreadLoan_117 : decode cX23_spreadLoan 117 = .ok (.invokevirtual 817, 3) := by decide +kernel
theorem eX23_spreadLoan_120 : decode cX23_spreadLoan 120 = .ok (.ifCond .lt 86, 3) := by decide +kernel
theorem eX23_spreadLoan_123 : decode cX23_spreadLoan 123 = .ok (.iconst 4, 1) := by decide +kernel
theorem eX23_spreadLoan_124 : decode cX23_spreadLoan 124 = .ok (.aload_n 0, 1) := by decide +kernel
theorem eX23_spreadLoan_125 : decode cX23_spreadLoan 125 = .ok (.iload 4, 2) := by decide +kernel
theorem eX23_spreadLoan_127 : decode cX23_spreadLoan 127 = .ok (.iload 5, 2) := by decide +kernel
theorem eX23_spreadLoan_129 : decode cX23_spreadLoan 129 = .ok (.invokevirtual 817, 3) := by decide +kernel
theorem eX23_spreadLoan_132 : decode cX23_spreadLoan 132 = .ok (.imul, 1) := by decide +kernel
theorem eX23_spreadLoan_133 : decode cX23_spreadLoan 133 = .ok (.istore 6, 2) := by decide +kernel
theorem eX23_spreadLoan_135 : decode cX23_spreadLoan 135 = .ok (.iconst 0, 1) := by decide +kernel
theorem eX23_spreadLoan_136 : decode cX23_spreadLoan 136 = .ok (.istore 7, 2) := by decide +kernel
theorem eX23_spreadLoan_138 : decode cX23_spreadLoan 138 = .ok (.iload 7, 2) := by decide +kernel
theorem eX23_spreadLoan_140 : decode cX23_spreadLoan 140 = .ok (.iconst 4, 1) := by decide +kernel
theorem eX23_spreadLoan_141 : decode cX23_spreadLoan 141 = .ok (.if_icmp .ge 59, 3) := by decide +kernel
theorem eX23_spreadLoan_144 : decode cX23_spreadLoan 144 = .ok (.aload_n 0, 1) := by decide +kernel
theorem eX23_spreadLoan_145 : decode cX23_spreadLoan 145 = .ok (.getfield 884, 3) := by decide +kernel
theorem eX23_spreadLoan_148 : decode cX23_spreadLoan 148 = .ok (.iload 6, 2) := by decide +kernel
theorem eX23_spreadLoan_150 : decode cX23_spreadLoan 150 = .ok (.iload 7, 2) := by decide +kernel
theorem eX23_spreadLoan_152 : decode cX23_spreadLoan 152 = .ok (.iadd, 1) := by decide +kernel
theorem eX23_spreadLoan_153 : decode cX23_spreadLoan 153 = .ok (.laload, 1) := by decide +kernel
theorem eX23_spreadLoan_154 : decode cX23_spreadLoan 154 = .ok (.aload_n 0, 1) := by decide +kernel
theorem eX23_spreadLoan_155 : decode cX23_spreadLoan 155 = .ok (.getfield 881, 3) := by decide +kernel
theorem eX23_spreadLoan_158 : decode cX23_spreadLoan 158 = .ok (.iload 7, 2) := by decide +kernel
theorem eX23_spreadLoan_160 : decode cX23_spreadLoan 160 = .ok (.laload, 1) := by decide +kernel
theorem eX23_spreadLoan_161 : decode cX23_spreadLoan 161 = .ok (.lor, 1) := by decide +kernel
theorem eX23_spreadLoan_162 : decode cX23_spreadLoan 162 = .ok (.lstore 8, 2) := by decide +kernel
theorem eX23_spreadLoan_164 : decode cX23_spreadLoan 164 = .ok (.lload 8, 2) := by decide +kernel
theorem eX23_spreadLoan_166 : decode cX23_spreadLoan 166 = .ok (.aload_n 0, 1) := by decide +kernel
theorem eX23_spreadLoan_167 : decode cX23_spreadLoan 167 = .ok (.getfield 884, 3) := by decide +kernel
theorem eX23_spreadLoan_170 : decode cX23_spreadLoan 170 = .ok (.iload 6, 2) := by decide +kernel
theorem eX23_spreadLoan_172 : decode cX23_spreadLoan 172 = .ok (.iload 7, 2) := by decide +kernel
theorem eX23_spreadLoan_174 : decode cX23_spreadLoan 174 = .ok (.iadd, 1) := by decide +kernel
theorem eX23_spreadLoan_175 : decode cX23_spreadLoan 175 = .ok (.laload, 1) := by decide +kernel
theorem eX23_spreadLoan_176 : decode cX23_spreadLoan 176 = .ok (.lcmp, 1) := by decide +kernel
theorem eX23_spreadLoan_177 : decode cX23_spreadLoan 177 = .ok (.ifCond .eq 5, 3) := by decide +kernel
theorem eX23_spreadLoan_180 : decode cX23_spreadLoan 180 = .ok (.iconst 1, 1) := by decide +kernel
theorem eX23_spreadLoan_181 : decode cX23_spreadLoan 181 = .ok (.istore_n 3, 1) := by decide +kernel
theorem eX23_spreadLoan_182 : decode cX23_spreadLoan 182 = .ok (.aload_n 0, 1) := by decide +kernel
theorem eX23_spreadLoan_183 : decode cX23_spreadLoan 183 = .ok (.getfield 884, 3) := by decide +kernel
theorem eX23_spreadLoan_186 : decode cX23_spreadLoan 186 = .ok (.iload 6, 2) := by decide +kernel
theorem eX23_spreadLoan_188 : decode cX23_spreadLoan 188 = .ok (.iload 7, 2) := by decide +kernel
theorem eX23_spreadLoan_190 : decode cX23_spreadLoan 190 = .ok (.iadd, 1) := by decide +kernel
theorem eX23_spreadLoan_191 : decode cX23_spreadLoan 191 = .ok (.lload 8, 2) := by decide +kernel
theorem eX23_spreadLoan_193 : decode cX23_spreadLoan 193 = .ok (.lastore, 1) := by decide +kernel
theorem eX23_spreadLoan_194 : decode cX23_spreadLoan 194 = .ok (.iinc 7 1, 3) := by decide +kernel
theorem eX23_spreadLoan_197 : decode cX23_spreadLoan 197 = .ok (.goto (-59), 3) := by decide +kernel
theorem eX23_spreadLoan_200 : decode cX23_spreadLoan 200 = .ok (.iinc 5 1, 3) := by decide +kernel
theorem eX23_spreadLoan_203 : decode cX23_spreadLoan 203 = .ok (.goto (-101), 3) := by decide +kernel
theorem eX23_spreadLoan_206 : decode cX23_spreadLoan 206 = .ok (.iinc 4 1, 3) := by decide +kernel
theorem eX23_spreadLoan_209 : decode cX23_spreadLoan 209 = .ok (.goto (-136), 3) := by decide +kernel
theorem eX23_spreadLoan_212 : decode cX23_spreadLoan 212 = .ok (.goto (-151), 3) := by decide +kernel
theorem eX23_spreadLoan_215 : decode cX23_spreadLoan 215 = .ok (.return_, 1) := by decide +kernel
theorem eX23_overlap_0 : decode cX23_overlap 0 = .ok (.aload_n 0, 1) := by decide +kernel
theorem eX23_overlap_1 : decode cX23_overlap 1 = .ok (.getfield 682, 3) := by decide +kernel
theorem eX23_overlap_4 : decode cX23_overlap 4 = .ok (.aload_n 1, 1) := by decide +kernel
theorem eX23_overlap_5 : decode cX23_overlap 5 = .ok (.getfield 682, 3) := by decide +kernel
theorem eX23_overlap_8 : decode cX23_overlap 8 = .ok (.if_acmp .eq 5, 3) := by decide +kernel
theorem eX23_overlap_11 : decode cX23_overlap 11 = .ok (.iconst 0, 1) := by decide +kernel
theorem eX23_overlap_12 : decode cX23_overlap 12 = .ok (.ireturn, 1) := by decide +kernel
theorem eX23_overlap_13 : decode cX23_overlap 13 = .ok (.iconst 0, 1) := by decide +kernel
theorem eX23_overlap_14 : decode cX23_overlap 14 = .ok (.istore_n 2, 1) := by decide +kernel
theorem eX23_overlap_15 : decode cX23_overlap 15 = .ok (.iload_n 2, 1) := by decide +kernel
theorem eX23_overlap_16 : decode cX23_overlap 16 = .ok (.aload_n 0, 1) := by decide +kernel
theorem eX23_overlap_17 : decode cX23_overlap 17 = .ok (.getfield 711, 3) := by decide +kernel
theorem eX23_overlap_20 : decode cX23_overlap 20 = .ok (.if_icmp .ge 34, 3) := by decide +kernel
theorem eX23_overlap_23 : decode cX23_overlap 23 = .ok (.iload_n 2, 1) := by decide +kernel
theorem eX23_overlap_24 : decode cX23_overlap 24 = .ok (.aload_n 1, 1) := by decide +kernel
theorem eX23_overlap_25 : decode cX23_overlap 25 = .ok (.getfield 711, 3) := by decide +kernel
theorem eX23_overlap_28 : decode cX23_overlap 28 = .ok (.if_icmp .ge 26, 3) := by decide +kernel
theorem eX23_overlap_31 : decode cX23_overlap 31 = .ok (.aload_n 0, 1) := by decide +kernel
theorem eX23_overlap_32 : decode cX23_overlap 32 = .ok (.getfield 688, 3) := by decide +kernel
theorem eX23_overlap_35 : decode cX23_overlap 35 = .ok (.iload_n 2, 1) := by decide +kernel
theorem eX23_overlap_36 : decode cX23_overlap 36 = .ok (.iaload, 1) := by decide +kernel
theorem eX23_overlap_37 : decode cX23_overlap 37 = .ok (.aload_n 1, 1) := by decide +kernel
theorem eX23_overlap_38 : decode cX23_overlap 38 = .ok (.getfield 688, 3) := by decide +kernel
theorem eX23_overlap_41 : decode cX23_overlap 41 = .ok (.iload_n 2, 1) := by decide +kernel
theorem eX23_overlap_42 : decode cX23_overlap 42 = .ok (.iaload, 1) := by decide +kernel
theorem eX23_overlap_43 : decode cX23_overlap 43 = .ok (.if_icmp .eq 5, 3) := by decide +kernel
theorem eX23_overlap_46 : decode cX23_overlap 46 = .ok (.iconst 0, 1) := by decide +kernel
theorem eX23_overlap_47 : decode cX23_overlap 47 = .ok (.ireturn, 1) := by decide +kernel
theorem eX23_overlap_48 : decode cX23_overlap 48 = .ok (.iinc 2 1, 3) := by decide +kernel
theorem eX23_overlap_51 : decode cX23_overlap 51 = .ok (.goto (-36), 3) := by decide +kernel
theorem eX23_overlap_54 : decode cX23_overlap 54 = .ok (.iconst 1, 1) := by decide +kernel
theorem eX23_overlap_55 : decode cX23_overlap 55 = .ok (.ireturn, 1) := by decide +kernel
theorem eX23_meets_0 : decode cX23_meets 0 = .ok (.aload_n 0, 1) := by decide +kernel
theorem eX23_meets_1 : decode cX23_meets 1 = .ok (.getfield 640, 3) := by decide +kernel
theorem eX23_meets_4 : decode cX23_meets 4 = .ok (.iload_n 1, 1) := by decide +kernel
theorem eX23_meets_5 : decode cX23_meets 5 = .ok (.iaload, 1) := by decide +kernel
theorem eX23_meets_6 : decode cX23_meets 6 = .ok (.istore_n 3, 1) := by decide +kernel
theorem eX23_meets_7 : decode cX23_meets 7 = .ok (.aload_n 0, 1) := by decide +kernel
theorem eX23_meets_8 : decode cX23_meets 8 = .ok (.getfield 656, 3) := by decide +kernel
theorem eX23_meets_11 : decode cX23_meets 11 = .ok (.iload_n 1, 1) := by decide +kernel
theorem eX23_meets_12 : decode cX23_meets 12 = .ok (.aaload, 1) := by decide +kernel
theorem eX23_meets_13 : decode cX23_meets 13 = .ok (.astore 4, 2) := by decide +kernel
theorem eX23_meets_15 : decode cX23_meets 15 = .ok (.iload_n 3, 1) := by decide +kernel
theorem eX23_meets_16 : decode cX23_meets 16 = .ok (.ifCond .eq 45, 3) := by decide +kernel
theorem eX23_meets_19 : decode cX23_meets 19 = .ok (.aload_n 0, 1) := by decide +kernel
theorem eX23_meets_20 : decode cX23_meets 20 = .ok (.getfield 720, 3) := by decide +kernel
theorem eX23_meets_23 : decode cX23_meets 23 = .ok (.iload_n 2, 1) := by decide +kernel
theorem eX23_meets_24 : decode cX23_meets 24 = .ok (.aaload, 1) := by decide +kernel
theorem eX23_meets_25 : decode cX23_meets 25 = .ok (.ifnull 36, 3) := by decide +kernel
theorem eX23_meets_28 : decode cX23_meets 28 = .ok (.aload 4, 2) := by decide +kernel
theorem eX23_meets_30 : decode cX23_meets 30 = .ok (.aload_n 0, 1) := by decide +kernel
theorem eX23_meets_31 : decode cX23_meets 31 = .ok (.getfield 720, 3) := by decide +kernel
theorem eX23_meets_34 : decode cX23_meets 34 = .ok (.iload_n 2, 1) := by decide +kernel
theorem eX23_meets_35 : decode cX23_meets 35 = .ok (.aaload, 1) := by decide +kernel
theorem eX23_meets_36 : decode cX23_meets 36 = .ok (.invokestatic 890, 3) := by decide +kernel
theorem eX23_meets_39 : decode cX23_meets 39 = .ok (.ifCond .eq 22, 3) := by decide +kernel
theorem eX23_meets_42 : decode cX23_meets 42 = .ok (.iload_n 3, 1) := by decide +kernel
theorem eX23_meets_43 : decode cX23_meets 43 = .ok (.iconst 1, 1) := by decide +kernel
theorem eX23_meets_44 : decode cX23_meets 44 = .ok (.if_icmp .eq 8, 3) := by decide +kernel
theorem eX23_meets_47 : decode cX23_meets 47 = .ok (.iload_n 3, 1) := by decide +kernel
theorem eX23_meets_48 : decode cX23_meets 48 = .ok (.iconst 2, 1) := by decide +kernel
theorem eX23_meets_49 : decode cX23_meets 49 = .ok (.if_icmp .ne 14, 3) := by decide +kernel
theorem eX23_meets_52 : decode cX23_meets 52 = .ok (.aload_n 0, 1) := by decide +kernel
theorem eX23_meets_53 : decode cX23_meets 53 = .ok (.getfield 726, 3) := by decide +kernel
theorem eX23_meets_56 : decode cX23_meets 56 = .ok (.iload_n 2, 1) := by decide +kernel
theorem eX23_meets_57 : decode cX23_meets 57 = .ok (.baload, 1) := by decide +kernel
theorem eX23_meets_58 : decode cX23_meets 58 = .ok (.ifCond .eq 5, 3) := by decide +kernel
theorem eX23_meets_61 : decode cX23_meets 61 = .ok (.iconst 0, 1) := by decide +kernel
theorem eX23_meets_62 : decode cX23_meets 62 = .ok (.ireturn, 1) := by decide +kernel
theorem eX23_meets_63 : decode cX23_meets 63 = .ok (.iload_n 3, 1) := by decide +kernel
theorem eX23_meets_64 : decode cX23_meets 64 = .ok (.bipush 7, 2) := by decide +kernel
theorem eX23_meets_66 : decode cX23_meets 66 = .ok (.if_icmp .eq 9, 3) := by decide +kernel
theorem eX23_meets_69 : decode cX23_meets 69 = .ok (.iload_n 3, 1) := by decide +kernel
theorem eX23_meets_70 : decode cX23_meets 70 = .ok (.bipush 6, 2) := by decide +kernel
theorem eX23_meets_72 : decode cX23_meets 72 = .ok (.if_icmp .ne 50, 3) := by decide +kernel
theorem eX23_meets_75 : decode cX23_meets 75 = .ok (.aload 4, 2) := by decide +kernel
theorem eX23_meets_77 : decode cX23_meets 77 = .ok (.getfield 711, 3) := by decide +kernel
theorem eX23_meets_80 : decode cX23_meets 80 = .ok (.ifCond .ne 42, 3) := by decide +kernel
theorem eX23_meets_83 : decode cX23_meets 83 = .ok (.aload 4, 2) := by decide +kernel
theorem eX23_meets_85 : decode cX23_meets 85 = .ok (.getfield 683, 3) := by decide +kernel
theorem eX23_meets_88 : decode cX23_meets 88 = .ok (.iconst 0, 1) := by decide +kernel
theorem eX23_meets_89 : decode cX23_meets 89 = .ok (.aaload, 1) := by decide +kernel
theorem eX23_meets_90 : decode cX23_meets 90 = .ok (.ifnull 32, 3) := by decide +kernel
theorem eX23_meets_93 : decode cX23_meets 93 = .ok (.aload 4, 2) := by decide +kernel
theorem eX23_meets_95 : decode cX23_meets 95 = .ok (.getfield 683, 3) := by decide +kernel
theorem eX23_meets_98 : decode cX23_meets 98 = .ok (.iconst 0, 1) := by decide +kernel
theorem eX23_meets_99 : decode cX23_meets 99 = .ok (.aaload, 1) := by decide +kernel
theorem eX23_meets_100 : decode cX23_meets 100 = .ok (.invokestatic 503, 3) := by decide +kernel
theorem eX23_meets_103 : decode cX23_meets 103 = .ok (.ifCond .eq 19, 3) := by decide +kernel
theorem eX23_meets_106 : decode cX23_meets 106 = .ok (.aload_n 0, 1) := by decide +kernel
theorem eX23_meets_107 : decode cX23_meets 107 = .ok (.getfield 720, 3) := by decide +kernel
theorem eX23_meets_110 : decode cX23_meets 110 = .ok (.iload_n 2, 1) := by decide +kernel
theorem eX23_meets_111 : decode cX23_meets 111 = .ok (.aaload, 1) := by decide +kernel
theorem eX23_meets_112 : decode cX23_meets 112 = .ok (.invokestatic 852, 3) := by decide +kernel
theorem eX23_meets_115 : decode cX23_meets 115 = .ok (.ifCond .eq 7, 3) := by decide +kernel
theorem eX23_meets_118 : decode cX23_meets 118 = .ok (.iconst 1, 1) := by decide +kernel
theorem eX23_meets_119 : decode cX23_meets 119 = .ok (.goto 4, 3) := by decide +kernel
theorem eX23_meets_122 : decode cX23_meets 122 = .ok (.iconst 0, 1) := by decide +kernel
theorem eX23_meets_123 : decode cX23_meets 123 = .ok (.istore 5, 2) := by decide +kernel
theorem eX23_meets_125 : decode cX23_meets 125 = .ok (.iload 5, 2) := by decide +kernel
theorem eX23_meets_127 : decode cX23_meets 127 = .ok (.ifCond .ne 7, 3) := by decide +kernel
theorem eX23_meets_130 : decode cX23_meets 130 = .ok (.iconst 1, 1) := by decide +kernel
theorem eX23_meets_131 : decode cX23_meets 131 = .ok (.goto 4, 3) := by decide +kernel
theorem eX23_meets_134 : decode cX23_meets 134 = .ok (.iconst 0, 1) := by decide +kernel
theorem eX23_meets_135 : decode cX23_meets 135 = .ok (.ireturn, 1) := by decide +kernel
theorem eX23_aliveBehind_0 : decode cX23_aliveBehind 0 = .ok (.aload_n 0, 1) := by decide +kernel
theorem eX23_aliveBehind_1 : decode cX23_aliveBehind 1 = .ok (.iload_n 1, 1) := by decide +kernel
theorem eX23_aliveBehind_2 : decode cX23_aliveBehind 2 = .ok (.iload_n 2, 1) := by decide +kernel
theorem eX23_aliveBehind_3 : decode cX23_aliveBehind 3 = .ok (.invokevirtual 887, 3) := by decide +kernel
theorem eX23_aliveBehind_6 : decode cX23_aliveBehind 6 = .ok (.iconst 0, 1) := by decide +kernel
theorem eX23_aliveBehind_7 : decode cX23_aliveBehind 7 = .ok (.istore_n 3, 1) := by decide +kernel
theorem eX23_aliveBehind_8 : decode cX23_aliveBehind 8 = .ok (.iload_n 3, 1) := by decide +kernel
theorem eX23_aliveBehind_9 : decode cX23_aliveBehind 9 = .ok (.sipush 256, 3) := by decide +kernel
theorem eX23_aliveBehind_12 : decode cX23_aliveBehind 12 = .ok (.if_icmp .ge 47, 3) := by decide +kernel
theorem eX23_aliveBehind_15 : decode cX23_aliveBehind 15 = .ok (.iload_n 3, 1) := by decide +kernel
theorem eX23_aliveBehind_16 : decode cX23_aliveBehind 16 = .ok (.aload_n 0, 1) := by decide +kernel
theorem eX23_aliveBehind_17 : decode cX23_aliveBehind 17 = .ok (.getfield 643, 3) := by decide +kernel
theorem eX23_aliveBehind_20 : decode cX23_aliveBehind 20 = .ok (.iload_n 1, 1) := by decide +kernel
theorem eX23_aliveBehind_21 : decode cX23_aliveBehind 21 = .ok (.iaload, 1) := by decide +kernel
theorem eX23_aliveBehind_22 : decode cX23_aliveBehind 22 = .ok (.if_icmp .eq 31, 3) := by decide +kernel
theorem eX23_aliveBehind_25 : decode cX23_aliveBehind 25 = .ok (.aload_n 0, 1) := by decide +kernel
theorem eX23_aliveBehind_26 : decode cX23_aliveBehind 26 = .ok (.getfield 881, 3) := by decide +kernel
theorem eX23_aliveBehind_29 : decode cX23_aliveBehind 29 = .ok (.iconst 0, 1) := by decide +kernel
theorem eX23_aliveBehind_30 : decode cX23_aliveBehind 30 = .ok (.iload_n 3, 1) := by decide +kernel
theorem eX23_aliveBehind_31 : decode cX23_aliveBehind 31 = .ok (.invokestatic 862, 3) := by decide +kernel
theorem eX23_aliveBehind_34 : decode cX23_aliveBehind 34 = .ok (.ifCond .eq 19, 3) := by decide +kernel
theorem eX23_aliveBehind_37 : decode cX23_aliveBehind 37 = .ok (.aload_n 0, 1) := by decide +kernel
theorem eX23_aliveBehind_38 : decode cX23_aliveBehind 38 = .ok (.getfield 876, 3) := by decide +kernel
theorem eX23_aliveBehind_41 : decode cX23_aliveBehind 41 = .ok (.iconst 4, 1) := by decide +kernel
theorem eX23_aliveBehind_42 : decode cX23_aliveBehind 42 = .ok (.iload_n 1, 1) := by decide +kernel
theorem eX23_aliveBehind_43 : decode cX23_aliveBehind 43 = .ok (.imul, 1) := by decide +kernel
theorem eX23_aliveBehind_44 : decode cX23_aliveBehind 44 = .ok (.iload_n 3, 1) := by decide +kernel
theorem eX23_aliveBehind_45 : decode cX23_aliveBehind 45 = .ok (.invokestatic 862, 3) := by decide +kernel
theorem eX23_aliveBehind_48 : decode cX23_aliveBehind 48 = .ok (.ifCond .eq 5, 3) := by decide +kernel
theorem eX23_aliveBehind_51 : decode cX23_aliveBehind 51 = .ok (.iconst 1, 1) := by decide +kernel
theorem eX23_aliveBehind_52 : decode cX23_aliveBehind 52 = .ok (.ireturn, 1) := by decide +kernel
theorem eX23_aliveBehind_53 : decode cX23_aliveBehind 53 = .ok (.iinc 3 1, 3) := by decide +kernel
theorem eX23_aliveBehind_56 : decode cX23_aliveBehind 56 = .ok (.goto (-48), 3) := by decide +kernel
theorem eX23_aliveBehind_59 : decode cX23_aliveBehind 59 = .ok (.iconst 0, 1) := by decide +kernel
theorem eX23_aliveBehind_60 : decode cX23_aliveBehind 60 = .ok (.ireturn, 1) := by decide +kernel
theorem eX23_goesOut_0 : decode cX23_goesOut 0 = .ok (.aload_n 0, 1) := by decide +kernel
theorem eX23_goesOut_1 : decode cX23_goesOut 1 = .ok (.getfield 625, 3) := by decide +kernel
theorem eX23_goesOut_4 : decode cX23_goesOut 4 = .ok (.iload_n 2, 1) := by decide +kernel
theorem eX23_goesOut_5 : decode cX23_goesOut 5 = .ok (.iaload, 1) := by decide +kernel
theorem eX23_goesOut_6 : decode cX23_goesOut 6 = .ok (.bipush 25, 2) := by decide +kernel
theorem eX23_goesOut_8 : decode cX23_goesOut 8 = .ok (.if_icmp .ne 55, 3) := by decide +kernel
theorem eX23_goesOut_11 : decode cX23_goesOut 11 = .ok (.aload_n 0, 1) := by decide +kernel
theorem eX23_goesOut_12 : decode cX23_goesOut 12 = .ok (.getfield 729, 3) := by decide +kernel
theorem eX23_goesOut_15 : decode cX23_goesOut 15 = .ok (.iload_n 3, 1) := by decide +kernel
theorem eX23_goesOut_16 : decode cX23_goesOut 16 = .ok (.iaload, 1) := by decide +kernel
theorem eX23_goesOut_17 : decode cX23_goesOut 17 = .ok (.ifCond .lt 46, 3) := by decide +kernel
theorem eX23_goesOut_20 : decode cX23_goesOut 20 = .ok (.aload_n 1, 1) := by decide +kernel
theorem eX23_goesOut_21 : decode cX23_goesOut 21 = .ok (.getfield 425, 3) := by decide +kernel
theorem eX23_goesOut_24 : decode cX23_goesOut 24 = .ok (.ifCond .lt 39, 3) := by decide +kernel
theorem eX23_goesOut_27 : decode cX23_goesOut 27 = .ok (.aload_n 0, 1) := by decide +kernel
theorem eX23_goesOut_28 : decode cX23_goesOut 28 = .ok (.getfield 810, 3) := by decide +kernel
theorem eX23_goesOut_31 : decode cX23_goesOut 31 = .ok (.iload_n 3, 1) := by decide +kernel
theorem eX23_goesOut_32 : decode cX23_goesOut 32 = .ok (.iaload, 1) := by decide +kernel
theorem eX23_goesOut_33 : decode cX23_goesOut 33 = .ok (.aload_n 1, 1) := by decide +kernel
theorem eX23_goesOut_34 : decode cX23_goesOut 34 = .ok (.getfield 425, 3) := by decide +kernel
theorem eX23_goesOut_37 : decode cX23_goesOut 37 = .ok (.if_icmp .eq 26, 3) := by decide +kernel
theorem eX23_goesOut_40 : decode cX23_goesOut 40 = .ok (.aload_n 0, 1) := by decide +kernel
theorem eX23_goesOut_41 : decode cX23_goesOut 41 = .ok (.getfield 884, 3) := by decide +kernel
theorem eX23_goesOut_44 : decode cX23_goesOut 44 = .ok (.iconst 4, 1) := by decide +kernel
theorem eX23_goesOut_45 : decode cX23_goesOut 45 = .ok (.iload_n 2, 1) := by decide +kernel
theorem eX23_goesOut_46 : decode cX23_goesOut 46 = .ok (.imul, 1) := by decide +kernel
theorem eX23_goesOut_47 : decode cX23_goesOut 47 = .ok (.aload_n 0, 1) := by decide +kernel
theorem eX23_goesOut_48 : decode cX23_goesOut 48 = .ok (.getfield 629, 3) := by decide +kernel
theorem eX23_goesOut_51 : decode cX23_goesOut 51 = .ok (.iload_n 2, 1) := by decide +kernel
theorem eX23_goesOut_52 : decode cX23_goesOut 52 = .ok (.iaload, 1) := by decide +kernel
theorem eX23_goesOut_53 : decode cX23_goesOut 53 = .ok (.invokestatic 862, 3) := by decide +kernel
theorem eX23_goesOut_56 : decode cX23_goesOut 56 = .ok (.ifCond .eq 7, 3) := by decide +kernel
theorem eX23_goesOut_59 : decode cX23_goesOut 59 = .ok (.iconst 1, 1) := by decide +kernel
theorem eX23_goesOut_60 : decode cX23_goesOut 60 = .ok (.goto 4, 3) := by decide +kernel
theorem eX23_goesOut_63 : decode cX23_goesOut 63 = .ok (.iconst 0, 1) := by decide +kernel
theorem eX23_goesOut_64 : decode cX23_goesOut 64 = .ok (.ireturn, 1) := by decide +kernel
theorem eX23_checkLoans_0 : decode cX23_checkLoans 0 = .ok (.aload_n 0, 1) := by decide +kernel
theorem eX23_checkLoans_1 : decode cX23_checkLoans 1 = .ok (.aload_n 1, 1) := by decide +kernel
theorem eX23_checkLoans_2 : decode cX23_checkLoans 2 = .ok (.invokevirtual 894, 3) := by decide +kernel
theorem eX23_checkLoans_5 : decode cX23_checkLoans 5 = .ok (.iconst (-1), 1) := by decide +kernel
theorem eX23_checkLoans_6 : decode cX23_checkLoans 6 = .ok (.istore_n 2, 1) := by decide +kernel
theorem eX23_checkLoans_7 : decode cX23_checkLoans 7 = .ok (.iconst 0, 1) := by decide +kernel
theorem eX23_checkLoans_8 : decode cX23_checkLoans 8 = .ok (.istore_n 3, 1) := by decide +kernel
theorem eX23_checkLoans_9 : decode cX23_checkLoans 9 = .ok (.iload_n 3, 1) := by decide +kernel
theorem eX23_checkLoans_10 : decode cX23_checkLoans 10 = .ok (.aload_n 0, 1) := by decide +kernel
theorem eX23_checkLoans_11 : decode cX23_checkLoans 11 = .ok (.getfield 723, 3) := by decide +kernel
theorem eX23_checkLoans_14 : decode cX23_checkLoans 14 = .ok (.if_icmp .ge 112, 3) := by decide +kernel
theorem eX23_checkLoans_17 : decode cX23_checkLoans 17 = .ok (.aload_n 0, 1) := by decide +kernel
theorem eX23_checkLoans_18 : decode cX23_checkLoans 18 = .ok (.aload_n 1, 1) := by decide +kernel
theorem eX23_checkLoans_19 : decode cX23_checkLoans 19 = .ok (.iload_n 3, 1) := by decide +kernel
theorem eX23_checkLoans_20 : decode cX23_checkLoans 20 = .ok (.invokevirtual 897, 3) := by decide +kernel
theorem eX23_checkLoans_23 : decode cX23_checkLoans 23 = .ok (.aload_n 1, 1) := by decide +kernel
theorem eX23_checkLoans_24 : decode cX23_checkLoans 24 = .ok (.getfield 807, 3) := by decide +kernel
theorem eX23_checkLoans_27 : decode cX23_checkLoans 27 = .ok (.istore 4, 2) := by decide +kernel
theorem eX23_checkLoans_29 : decode cX23_checkLoans 29 = .ok (.iload 4, 2) := by decide +kernel
theorem eX23_checkLoans_31 : decode cX23_checkLoans 31 = .ok (.aload_n 1, 1) := by decide +kernel
theorem eX23_checkLoans_32 : decode cX23_checkLoans 32 = .ok (.getfield 813, 3) := by decide +kernel
theorem eX23_checkLoans_35 : decode cX23_checkLoans 35 = .ok (.if_icmp .ge 85, 3) := by decide +kernel
theorem eX23_checkLoans_38 : decode cX23_checkLoans 38 = .ok (.aload_n 0, 1) := by decide +kernel
theorem eX23_checkLoans_39 : decode cX23_checkLoans 39 = .ok (.getfield 814, 3) := by decide +kernel
theorem eX23_checkLoans_42 : decode cX23_checkLoans 42 = .ok (.iload 4, 2) := by decide +kernel
theorem eX23_checkLoans_44 : decode cX23_checkLoans 44 = .ok (.baload, 1) := by decide +kernel
theorem eX23_checkLoans_45 : decode cX23_checkLoans 45 = .ok (.ifCond .eq 22, 3) := by decide +kernel
theorem eX23_checkLoans_48 : decode cX23_checkLoans 48 = .ok (.iload_n 2, 1) := by decide +kernel
theorem eX23_checkLoans_49 : decode cX23_checkLoans 49 = .ok (.ifCond .lt 14, 3) := by decide +kernel
theorem eX23_checkLoans_52 : decode cX23_checkLoans 52 = .ok (.aload_n 0, 1) := by decide +kernel
theorem eX23_checkLoans_53 : decode cX23_checkLoans 53 = .ok (.getfield 627, 3) := by decide +kernel
theorem eX23_checkLoans_56 : decode cX23_checkLoans 56 = .ok (.iload 4, 2) := by decide +kernel
theorem eX23_checkLoans_58 : decode cX23_checkLoans 58 = .ok (.iaload, 1) := by decide +kernel
theorem eX23_checkLoans_59 : decode cX23_checkLoans 59 = .ok (.iload_n 2, 1) := by decide +kernel
theorem eX23_checkLoans_60 : decode cX23_checkLoans 60 = .ok (.if_icmp .ge 7, 3) := by decide +kernel
theorem eX23_checkLoans_63 : decode cX23_checkLoans 63 = .ok (.iconst 1, 1) := by decide +kernel
theorem eX23_checkLoans_64 : decode cX23_checkLoans 64 = .ok (.goto 4, 3) := by decide +kernel
theorem eX23_checkLoans_67 : decode cX23_checkLoans 67 = .ok (.iconst 0, 1) := by decide +kernel
theorem eX23_checkLoans_68 : decode cX23_checkLoans 68 = .ok (.istore 5, 2) := by decide +kernel
theorem eX23_checkLoans_70 : decode cX23_checkLoans 70 = .ok (.iload 5, 2) := by decide +kernel
theorem eX23_checkLoans_72 : decode cX23_checkLoans 72 = .ok (.ifCond .eq 42, 3) := by decide +kernel
theorem eX23_checkLoans_75 : decode cX23_checkLoans 75 = .ok (.aload_n 0, 1) := by decide +kernel
theorem eX23_checkLoans_76 : decode cX23_checkLoans 76 = .ok (.iload 4, 2) := by decide +kernel
theorem eX23_checkLoans_78 : decode cX23_checkLoans 78 = .ok (.iload_n 3, 1) := by decide +kernel
theorem eX23_checkLoans_79 : decode cX23_checkLoans 79 = .ok (.invokevirtual 901, 3) := by decide +kernel
theorem eX23_checkLoans_82 : decode cX23_checkLoans 82 = .ok (.ifCond .eq 13, 3) := by decide +kernel
theorem eX23_checkLoans_85 : decode cX23_checkLoans 85 = .ok (.aload_n 0, 1) := by decide +kernel
theorem eX23_checkLoans_86 : decode cX23_checkLoans 86 = .ok (.iload 4, 2) := by decide +kernel
theorem eX23_checkLoans_88 : decode cX23_checkLoans 88 = .ok (.iload_n 3, 1) := by decide +kernel
theorem eX23_checkLoans_89 : decode cX23_checkLoans 89 = .ok (.invokevirtual 904, 3) := by decide +kernel
theorem eX23_checkLoans_92 : decode cX23_checkLoans 92 = .ok (.ifCond .ne 14, 3) := by decide +kernel
theorem eX23_checkLoans_95 : decode cX23_checkLoans 95 = .ok (.aload_n 0, 1) := by decide +kernel
theorem eX23_checkLoans_96 : decode cX23_checkLoans 96 = .ok (.aload_n 1, 1) := by decide +kernel
theorem eX23_checkLoans_97 : decode cX23_checkLoans 97 = .ok (.iload 4, 2) := by decide +kernel
theorem eX23_checkLoans_99 : decode cX23_checkLoans 99 = .ok (.iload_n 3, 1) := by decide +kernel
theorem eX23_checkLoans_100 : decode cX23_checkLoans 100 = .ok (.invokevirtual 907, 3) := by decide +kernel
theorem eX23_checkLoans_103 : decode cX23_checkLoans 103 = .ok (.ifCond .eq 11, 3) := by decide +kernel
theorem eX23_checkLoans_106 : decode cX23_checkLoans 106 = .ok (.aload_n 0, 1) := by decide +kernel
theorem eX23_checkLoans_107 : decode cX23_checkLoans 107 = .ok (.getfield 627, 3) := by decide +kernel
theorem eX23_checkLoans_110 : decode cX23_checkLoans 110 = .ok (.iload 4, 2) := by decide +kernel
theorem eX23_checkLoans_112 : decode cX23_checkLoans 112 = .ok (.iaload, 1) := by decide +kernel
theorem eX23_checkLoans_113 : decode cX23_checkLoans 113 = .ok (.istore_n 2, 1) := by decide +kernel
theorem eX23_checkLoans_114 : decode cX23_checkLoans 114 = .ok (.iinc 4 1, 3) := by decide +kernel
theorem eX23_checkLoans_117 : decode cX23_checkLoans 117 = .ok (.goto (-88), 3) := by decide +kernel
theorem eX23_checkLoans_120 : decode cX23_checkLoans 120 = .ok (.iinc 3 1, 3) := by decide +kernel
theorem eX23_checkLoans_123 : decode cX23_checkLoans 123 = .ok (.goto (-114), 3) := by decide +kernel
theorem eX23_checkLoans_126 : decode cX23_checkLoans 126 = .ok (.iload_n 2, 1) := by decide +kernel
theorem eX23_checkLoans_127 : decode cX23_checkLoans 127 = .ok (.ifCond .lt 10, 3) := by decide +kernel
theorem eX23_checkLoans_130 : decode cX23_checkLoans 130 = .ok (.aload_n 0, 1) := by decide +kernel
theorem eX23_checkLoans_131 : decode cX23_checkLoans 131 = .ok (.bipush 6, 2) := by decide +kernel
theorem eX23_checkLoans_133 : decode cX23_checkLoans 133 = .ok (.iload_n 2, 1) := by decide +kernel
theorem eX23_checkLoans_134 : decode cX23_checkLoans 134 = .ok (.invokevirtual 96, 3) := by decide +kernel
theorem eX23_checkLoans_137 : decode cX23_checkLoans 137 = .ok (.return_, 1) := by decide +kernel
theorem eX23_layAll_0 : decode cX23_layAll 0 = .ok (.aload_n 0, 1) := by decide +kernel
theorem eX23_layAll_1 : decode cX23_layAll 1 = .ok (.iconst 0, 1) := by decide +kernel
theorem eX23_layAll_2 : decode cX23_layAll 2 = .ok (.putfield 622, 3) := by decide +kernel
theorem eX23_layAll_5 : decode cX23_layAll 5 = .ok (.iconst 0, 1) := by decide +kernel
theorem eX23_layAll_6 : decode cX23_layAll 6 = .ok (.istore_n 1, 1) := by decide +kernel
theorem eX23_layAll_7 : decode cX23_layAll 7 = .ok (.iload_n 1, 1) := by decide +kernel
theorem eX23_layAll_8 : decode cX23_layAll 8 = .ok (.aload_n 0, 1) := by decide +kernel
theorem eX23_layAll_9 : decode cX23_layAll 9 = .ok (.getfield 221, 3) := by decide +kernel
theorem eX23_layAll_12 : decode cX23_layAll 12 = .ok (.if_icmp .ge 72, 3) := by decide +kernel
theorem eX23_layAll_15 : decode cX23_layAll 15 = .ok (.aload_n 0, 1) := by decide +kernel
theorem eX23_layAll_16 : decode cX23_layAll 16 = .ok (.invokevirtual 89, 3) := by decide +kernel
theorem eX23_layAll_19 : decode cX23_layAll 19 = .ok (.ifCond .eq 65, 3) := by decide +kernel
theorem eX23_layAll_22 : decode cX23_layAll 22 = .ok (.aload_n 0, 1) := by decide +kernel
theorem eX23_layAll_23 : decode cX23_layAll 23 = .ok (.getfield 232, 3) := by decide +kernel
theorem eX23_layAll_26 : decode cX23_layAll 26 = .ok (.iload_n 1, 1) := by decide +kernel
theorem eX23_layAll_27 : decode cX23_layAll 27 = .ok (.aaload, 1) := by decide +kernel
theorem eX23_layAll_28 : decode cX23_layAll 28 = .ok (.getfield 174, 3) := by decide +kernel
theorem eX23_layAll_31 : decode cX23_layAll 31 = .ok (.bipush 12, 2) := by decide +kernel
theorem eX23_layAll_33 : decode cX23_layAll 33 = .ok (.if_icmp .ne 45, 3) := by decide +kernel
theorem eX23_layAll_36 : decode cX23_layAll 36 = .ok (.aload_n 0, 1) := by decide +kernel
theorem eX23_layAll_37 : decode cX23_layAll 37 = .ok (.iload_n 1, 1) := by decide +kernel
theorem eX23_layAll_38 : decode cX23_layAll 38 = .ok (.invokevirtual 911, 3) := by decide +kernel
theorem eX23_layAll_41 : decode cX23_layAll 41 = .ok (.aload_n 0, 1) := by decide +kernel
theorem eX23_layAll_42 : decode cX23_layAll 42 = .ok (.aload_n 0, 1) := by decide +kernel
theorem eX23_layAll_43 : decode cX23_layAll 43 = .ok (.getfield 232, 3) := by decide +kernel
theorem eX23_layAll_46 : decode cX23_layAll 46 = .ok (.iload_n 1, 1) := by decide +kernel
theorem eX23_layAll_47 : decode cX23_layAll 47 = .ok (.aaload, 1) := by decide +kernel
theorem eX23_layAll_48 : decode cX23_layAll 48 = .ok (.invokevirtual 914, 3) := by decide +kernel
theorem eX23_layAll_51 : decode cX23_layAll 51 = .ok (.aload_n 0, 1) := by decide +kernel
theorem eX23_layAll_52 : decode cX23_layAll 52 = .ok (.aload_n 0, 1) := by decide +kernel
theorem eX23_layAll_53 : decode cX23_layAll 53 = .ok (.getfield 232, 3) := by decide +kernel
theorem eX23_layAll_56 : decode cX23_layAll 56 = .ok (.iload_n 1, 1) := by decide +kernel
theorem eX23_layAll_57 : decode cX23_layAll 57 = .ok (.aaload, 1) := by decide +kernel
theorem eX23_layAll_58 : decode cX23_layAll 58 = .ok (.invokevirtual 917, 3) := by decide +kernel
theorem eX23_layAll_61 : decode cX23_layAll 61 = .ok (.aload_n 0, 1) := by decide +kernel
theorem eX23_layAll_62 : decode cX23_layAll 62 = .ok (.invokevirtual 89, 3) := by decide +kernel
theorem eX23_layAll_65 : decode cX23_layAll 65 = .ok (.ifCond .eq 13, 3) := by decide +kernel
theorem eX23_layAll_68 : decode cX23_layAll 68 = .ok (.aload_n 0, 1) := by decide +kernel
theorem eX23_layAll_69 : decode cX23_layAll 69 = .ok (.aload_n 0, 1) := by decide +kernel
theorem eX23_layAll_70 : decode cX23_layAll 70 = .ok (.getfield 232, 3) := by decide +kernel
theorem eX23_layAll_73 : decode cX23_layAll 73 = .ok (.iload_n 1, 1) := by decide +kernel
theorem eX23_layAll_74 : decode cX23_layAll 74 = .ok (.aaload, 1) := by decide +kernel
theorem eX23_layAll_75 : decode cX23_layAll 75 = .ok (.invokevirtual 920, 3) := by decide +kernel
theorem eX23_layAll_78 : decode cX23_layAll 78 = .ok (.iinc 1 1, 3) := by decide +kernel
theorem eX23_layAll_81 : decode cX23_layAll 81 = .ok (.goto (-74), 3) := by decide +kernel
theorem eX23_layAll_84 : decode cX23_layAll 84 = .ok (.return_, 1) := by decide +kernel
theorem eX23_node_0 : decode cX23_node 0 = .ok (.aload_n 0, 1) := by decide +kernel
theorem eX23_node_1 : decode cX23_node 1 = .ok (.getfield 971, 3) := by decide +kernel
theorem eX23_node_4 : decode cX23_node 4 = .ok (.istore_n 1, 1) := by decide +kernel
theorem eX23_node_5 : decode cX23_node 5 = .ok (.iload_n 1, 1) := by decide +kernel
theorem eX23_node_6 : decode cX23_node 6 = .ok (.ifCond .eq 16, 3) := by decide +kernel
theorem eX23_node_9 : decode cX23_node 9 = .ok (.aload_n 0, 1) := by decide +kernel
theorem eX23_node_10 : decode cX23_node 10 = .ok (.aload_n 0, 1) := by decide +kernel
theorem eX23_node_11 : decode cX23_node 11 = .ok (.getfield 936, 3) := by decide +kernel
theorem eX23_node_14 : decode cX23_node 14 = .ok (.iload_n 1, 1) := by decide +kernel
theorem eX23_node_15 : decode cX23_node 15 = .ok (.iaload, 1) := by decide +kernel
theorem eX23_node_16 : decode cX23_node 16 = .ok (.putfield 971, 3) := by decide +kernel
theorem eX23_node_19 : decode cX23_node 19 = .ok (.goto 18, 3) := by decide +kernel
theorem eX23_node_22 : decode cX23_node 22 = .ok (.aload_n 0, 1) := by decide +kernel
theorem eX23_node_23 : decode cX23_node 23 = .ok (.dup, 1) := by decide +kernel
theorem eX23_node_24 : decode cX23_node 24 = .ok (.getfield 974, 3) := by decide +kernel
theorem eX23_node_27 : decode cX23_node 27 = .ok (.iconst 1, 1) := by decide +kernel
theorem eX23_node_28 : decode cX23_node 28 = .ok (.iadd, 1) := by decide +kernel
theorem eX23_node_29 : decode cX23_node 29 = .ok (.putfield 974, 3) := by decide +kernel
theorem eX23_node_32 : decode cX23_node 32 = .ok (.aload_n 0, 1) := by decide +kernel
theorem eX23_node_33 : decode cX23_node 33 = .ok (.getfield 974, 3) := by decide +kernel
theorem eX23_node_36 : decode cX23_node 36 = .ok (.istore_n 1, 1) := by decide +kernel
theorem eX23_node_37 : decode cX23_node 37 = .ok (.aload_n 0, 1) := by decide +kernel
theorem eX23_node_38 : decode cX23_node 38 = .ok (.getfield 930, 3) := by decide +kernel
theorem eX23_node_41 : decode cX23_node 41 = .ok (.iload_n 1, 1) := by decide +kernel
theorem eX23_node_42 : decode cX23_node 42 = .ok (.lconst 0, 1) := by decide +kernel
theorem eX23_node_43 : decode cX23_node 43 = .ok (.lastore, 1) := by decide +kernel
theorem eX23_node_44 : decode cX23_node 44 = .ok (.aload_n 0, 1) := by decide +kernel
theorem eX23_node_45 : decode cX23_node 45 = .ok (.getfield 933, 3) := by decide +kernel
theorem eX23_node_48 : decode cX23_node 48 = .ok (.iload_n 1, 1) := by decide +kernel
theorem eX23_node_49 : decode cX23_node 49 = .ok (.iconst 0, 1) := by decide +kernel
theorem eX23_node_50 : decode cX23_node 50 = .ok (.bastore, 1) := by decide +kernel
theorem eX23_node_51 : decode cX23_node 51 = .ok (.aload_n 0, 1) := by decide +kernel
theorem eX23_node_52 : decode cX23_node 52 = .ok (.getfield 936, 3) := by decide +kernel
theorem eX23_node_55 : decode cX23_node 55 = .ok (.iload_n 1, 1) := by decide +kernel
theorem eX23_node_56 : decode cX23_node 56 = .ok (.iconst 0, 1) := by decide +kernel
theorem eX23_node_57 : decode cX23_node 57 = .ok (.iastore, 1) := by decide +kernel
theorem eX23_node_58 : decode cX23_node 58 = .ok (.iload_n 1, 1) := by decide +kernel
theorem eX23_node_59 : decode cX23_node 59 = .ok (.ireturn, 1) := by decide +kernel
theorem eX23_freeNode_0 : decode cX23_freeNode 0 = .ok (.aload_n 0, 1) := by decide +kernel
theorem eX23_freeNode_1 : decode cX23_freeNode 1 = .ok (.getfield 936, 3) := by decide +kernel
theorem eX23_freeNode_4 : decode cX23_freeNode 4 = .ok (.iload_n 1, 1) := by decide +kernel
theorem eX23_freeNode_5 : decode cX23_freeNode 5 = .ok (.aload_n 0, 1) := by decide +kernel
theorem eX23_freeNode_6 : decode cX23_freeNode 6 = .ok (.getfield 971, 3) := by decide +kernel
theorem eX23_freeNode_9 : decode cX23_freeNode 9 = .ok (.iastore, 1) := by decide +kernel
theorem eX23_freeNode_10 : decode cX23_freeNode 10 = .ok (.aload_n 0, 1) := by decide +kernel
theorem eX23_freeNode_11 : decode cX23_freeNode 11 = .ok (.iload_n 1, 1) := by decide +kernel
theorem eX23_freeNode_12 : decode cX23_freeNode 12 = .ok (.putfield 971, 3) := by decide +kernel
theorem eX23_freeNode_15 : decode cX23_freeNode 15 = .ok (.return_, 1) := by decide +kernel
theorem eX23_leavesOf_0 : decode cX23_leavesOf 0 = .ok (.aload_n 1, 1) := by decide +kernel
theorem eX23_leavesOf_1 : decode cX23_leavesOf 1 = .ok (.ifnull 26, 3) := by decide +kernel
theorem eX23_leavesOf_4 : decode cX23_leavesOf 4 = .ok (.aload_n 1, 1) := by decide +kernel
theorem eX23_leavesOf_5 : decode cX23_leavesOf 5 = .ok (.getfield 386, 3) := by decide +kernel
theorem eX23_leavesOf_8 : decode cX23_leavesOf 8 = .ok (.iconst 3, 1) := by decide +kernel
theorem eX23_leavesOf_9 : decode cX23_leavesOf 9 = .ok (.if_icmp .ne 18, 3) := by decide +kernel
theorem eX23_leavesOf_12 : decode cX23_leavesOf 12 = .ok (.aload_n 0, 1) := by decide +kernel
theorem eX23_leavesOf_13 : decode cX23_leavesOf 13 = .ok (.getfield 232, 3) := by decide +kernel
theorem eX23_leavesOf_16 : decode cX23_leavesOf 16 = .ok (.aload_n 1, 1) := by decide +kernel
theorem eX23_leavesOf_17 : decode cX23_leavesOf 17 = .ok (.getfield 387, 3) := by decide +kernel
theorem eX23_leavesOf_20 : decode cX23_leavesOf 20 = .ok (.aaload, 1) := by decide +kernel
theorem eX23_leavesOf_21 : decode cX23_leavesOf 21 = .ok (.getfield 453, 3) := by decide +kernel
theorem eX23_leavesOf_24 : decode cX23_leavesOf 24 = .ok (.goto 4, 3) := by decide +kernel
theorem eX23_leavesOf_27 : decode cX23_leavesOf 27 = .ok (.iconst 1, 1) := by decide +kernel
theorem eX23_leavesOf_28 : decode cX23_leavesOf 28 = .ok (.ireturn, 1) := by decide +kernel
theorem eX23_newPlace_0 : decode cX23_newPlace 0 = .ok (.aload_n 0, 1) := by decide +kernel
theorem eX23_newPlace_1 : decode cX23_newPlace 1 = .ok (.invokevirtual 977, 3) := by decide +kernel
theorem eX23_newPlace_4 : decode cX23_newPlace 4 = .ok (.istore_n 2, 1) := by decide +kernel
theorem eX23_newPlace_5 : decode cX23_newPlace 5 = .ok (.iload_n 2, 1) := by decide +kernel
theorem eX23_newPlace_6 : decode cX23_newPlace 6 = .ok (.istore_n 3, 1) := by decide +kernel
theorem eX23_newPlace_7 : decode cX23_newPlace 7 = .ok (.aload_n 0, 1) := by decide +kernel
theorem eX23_newPlace_8 : decode cX23_newPlace 8 = .ok (.aload_n 1, 1) := by decide +kernel
theorem eX23_newPlace_9 : decode cX23_newPlace 9 = .ok (.invokevirtual 980, 3) := by decide +kernel
theorem eX23_newPlace_12 : decode cX23_newPlace 12 = .ok (.istore 4, 2) := by decide +kernel
theorem eX23_newPlace_14 : decode cX23_newPlace 14 = .ok (.iload 4, 2) := by decide +kernel
theorem eX23_newPlace_16 : decode cX23_newPlace 16 = .ok (.iconst 1, 1) := by decide +kernel
theorem eX23_newPlace_17 : decode cX23_newPlace 17 = .ok (.if_icmp .le 26, 3) := by decide +kernel
theorem eX23_newPlace_20 : decode cX23_newPlace 20 = .ok (.aload_n 0, 1) := by decide +kernel
theorem eX23_newPlace_21 : decode cX23_newPlace 21 = .ok (.invokevirtual 977, 3) := by decide +kernel
theorem eX23_newPlace_24 : decode cX23_newPlace 24 = .ok (.istore 5, 2) := by decide +kernel
theorem eX23_newPlace_26 : decode cX23_newPlace 26 = .ok (.aload_n 0, 1) := by decide +kernel
theorem eX23_newPlace_27 : decode cX23_newPlace 27 = .ok (.getfield 936, 3) := by decide +kernel
theorem eX23_newPlace_30 : decode cX23_newPlace 30 = .ok (.iload_n 3, 1) := by decide +kernel
theorem eX23_newPlace_31 : decode cX23_newPlace 31 = .ok (.iload 5, 2) := by decide +kernel
theorem eX23_newPlace_33 : decode cX23_newPlace 33 = .ok (.iastore, 1) := by decide +kernel
theorem eX23_newPlace_34 : decode cX23_newPlace 34 = .ok (.iload 5, 2) := by decide +kernel
theorem eX23_newPlace_36 : decode cX23_newPlace 36 = .ok (.istore_n 3, 1) := by decide +kernel
theorem eX23_newPlace_37 : decode cX23_newPlace 37 = .ok (.iinc 4 (-1), 3) := by decide +kernel
theorem eX23_newPlace_40 : decode cX23_newPlace 40 = .ok (.goto (-26), 3) := by decide +kernel
theorem eX23_newPlace_43 : decode cX23_newPlace 43 = .ok (.iload_n 2, 1) := by decide +kernel
theorem eX23_newPlace_44 : decode cX23_newPlace 44 = .ok (.ireturn, 1) := by decide +kernel
theorem eX23_along_0 : decode cX23_along 0 = .ok (.iload_n 1, 1) := by decide +kernel
theorem eX23_along_1 : decode cX23_along 1 = .ok (.istore_n 3, 1) := by decide +kernel
theorem eX23_along_2 : decode cX23_along 2 = .ok (.iconst 0, 1) := by decide +kernel
theorem eX23_along_3 : decode cX23_along 3 = .ok (.istore 4, 2) := by decide +kernel
theorem eX23_along_5 : decode cX23_along 5 = .ok (.iload 4, 2) := by decide +kernel
theorem eX23_along_7 : decode cX23_along 7 = .ok (.iload_n 2, 1) := by decide +kernel
theorem eX23_along_8 : decode cX23_along 8 = .ok (.if_icmp .ge 16, 3) := by decide +kernel
theorem eX23_along_11 : decode cX23_along 11 = .ok (.aload_n 0, 1) := by decide +kernel
theorem eX23_along_12 : decode cX23_along 12 = .ok (.getfield 936, 3) := by decide +kernel
theorem eX23_along_15 : decode cX23_along 15 = .ok (.iload_n 3, 1) := by decide +kernel
theorem eX23_along_16 : decode cX23_along 16 = .ok (.iaload, 1) := by decide +kernel
theorem eX23_along_17 : decode cX23_along 17 = .ok (.istore_n 3, 1) := by decide +kernel
theorem eX23_along_18 : decode cX23_along 18 = .ok (.iinc 4 1, 3) := by decide +kernel
theorem eX23_along_21 : decode cX23_along 21 = .ok (.goto (-16), 3) := by decide +kernel
theorem eX23_along_24 : decode cX23_along 24 = .ok (.iload_n 3, 1) := by decide +kernel
theorem eX23_along_25 : decode cX23_along 25 = .ok (.ireturn, 1) := by decide +kernel
theorem eX23_partOf_0 : decode cX23_partOf 0 = .ok (.iconst 0, 1) := by decide +kernel
theorem eX23_partOf_1 : decode cX23_partOf 1 = .ok (.istore 4, 2) := by decide +kernel
theorem eX23_partOf_3 : decode cX23_partOf 3 = .ok (.iconst 0, 1) := by decide +kernel
theorem eX23_partOf_4 : decode cX23_partOf 4 = .ok (.istore 5, 2) := by decide +kernel
theorem eX23_partOf_6 : decode cX23_partOf 6 = .ok (.iload 5, 2) := by decide +kernel
theorem eX23_partOf_8 : decode cX23_partOf 8 = .ok (.iload_n 3, 1) := by decide +kernel
theorem eX23_partOf_9 : decode cX23_partOf 9 = .ok (.if_icmp .ge 22, 3) := by decide +kernel
theorem eX23_partOf_12 : decode cX23_partOf 12 = .ok (.iload 4, 2) := by decide +kernel
theorem eX23_partOf_14 : decode cX23_partOf 14 = .ok (.aload_n 0, 1) := by decide +kernel
theorem eX23_partOf_15 : decode cX23_partOf 15 = .ok (.aload_n 1, 1) := by decide +kernel
theorem eX23_partOf_16 : decode cX23_partOf 16 = .ok (.iload 5, 2) := by decide +kernel
theorem eX23_partOf_18 : decode cX23_partOf 18 = .ok (.aaload, 1) := by decide +kernel
theorem eX23_partOf_19 : decode cX23_partOf 19 = .ok (.invokevirtual 980, 3) := by decide +kernel
theorem eX23_partOf_22 : decode cX23_partOf 22 = .ok (.iadd, 1) := by decide +kernel
theorem eX23_partOf_23 : decode cX23_partOf 23 = .ok (.istore 4, 2) := by decide +kernel
theorem eX23_partOf_25 : decode cX23_partOf 25 = .ok (.iinc 5 1, 3) := by decide +kernel
theorem eX23_partOf_28 : decode cX23_partOf 28 = .ok (.goto (-22), 3) := by decide +kernel
theorem eX23_partOf_31 : decode cX23_partOf 31 = .ok (.aload_n 0, 1) := by decide +kernel
theorem eX23_partOf_32 : decode cX23_partOf 32 = .ok (.iload_n 2, 1) := by decide +kernel
theorem eX23_partOf_33 : decode cX23_partOf 33 = .ok (.iload 4, 2) := by decide +kernel
theorem eX23_partOf_35 : decode cX23_partOf 35 = .ok (.invokevirtual 983, 3) := by decide +kernel
theorem eX23_partOf_38 : decode cX23_partOf 38 = .ok (.ireturn, 1) := by decide +kernel
theorem eX23_freePlace_0 : decode cX23_freePlace 0 = .ok (.iload_n 2, 1) := by decide +kernel
theorem eX23_freePlace_1 : decode cX23_freePlace 1 = .ok (.istore_n 3, 1) := by decide +kernel
theorem eX23_freePlace_2 : decode cX23_freePlace 2 = .ok (.aload_n 0, 1) := by decide +kernel
theorem eX23_freePlace_3 : decode cX23_freePlace 3 = .ok (.aload_n 1, 1) := by decide +kernel
theorem eX23_freePlace_4 : decode cX23_freePlace 4 = .ok (.invokevirtual 980, 3) := by decide +kernel
theorem eX23_freePlace_7 : decode cX23_freePlace 7 = .ok (.istore 4, 2) := by decide +kernel
theorem eX23_freePlace_9 : decode cX23_freePlace 9 = .ok (.iload 4, 2) := by decide +kernel
theorem eX23_freePlace_11 : decode cX23_freePlace 11 = .ok (.ifCond .le 25, 3) := by decide +kernel
theorem eX23_freePlace_14 : decode cX23_freePlace 14 = .ok (.aload_n 0, 1) := by decide +kernel
theorem eX23_freePlace_15 : decode cX23_freePlace 15 = .ok (.getfield 936, 3) := by decide +kernel
theorem eX23_freePlace_18 : decode cX23_freePlace 18 = .ok (.iload_n 3, 1) := by decide +kernel
theorem eX23_freePlace_19 : decode cX23_freePlace 19 = .ok (.iaload, 1) := by decide +kernel
theorem eX23_freePlace_20 : decode cX23_freePlace 20 = .ok (.istore 5, 2) := by decide +kernel
theorem eX23_freePlace_22 : decode cX23_freePlace 22 = .ok (.aload_n 0, 1) := by decide +kernel
theorem eX23_freePlace_23 : decode cX23_freePlace 23 = .ok (.iload_n 3, 1) := by decide +kernel
theorem eX23_freePlace_24 : decode cX23_freePlace 24 = .ok (.invokevirtual 986, 3) := by decide +kernel
theorem eX23_freePlace_27 : decode cX23_freePlace 27 = .ok (.iload 5, 2) := by decide +kernel
theorem eX23_freePlace_29 : decode cX23_freePlace 29 = .ok (.istore_n 3, 1) := by decide +kernel
theorem eX23_freePlace_30 : decode cX23_freePlace 30 = .ok (.iinc 4 (-1), 3) := by decide +kernel
theorem eX23_freePlace_33 : decode cX23_freePlace 33 = .ok (.goto (-24), 3) := by decide +kernel
theorem eX23_freePlace_36 : decode cX23_freePlace 36 = .ok (.return_, 1) := by decide +kernel
theorem eX23_setPlace_0 : decode cX23_setPlace 0 = .ok (.aload_n 1, 1) := by decide +kernel
theorem eX23_setPlace_1 : decode cX23_setPlace 1 = .ok (.getfield 386, 3) := by decide +kernel
theorem eX23_setPlace_4 : decode cX23_setPlace 4 = .ok (.iconst 3, 1) := by decide +kernel
theorem eX23_setPlace_5 : decode cX23_setPlace 5 = .ok (.if_icmp .eq 18, 3) := by decide +kernel
theorem eX23_setPlace_8 : decode cX23_setPlace 8 = .ok (.aload_n 0, 1) := by decide +kernel
theorem eX23_setPlace_9 : decode cX23_setPlace 9 = .ok (.getfield 930, 3) := by decide +kernel
theorem eX23_setPlace_12 : decode cX23_setPlace 12 = .ok (.iload_n 2, 1) := by decide +kernel
theorem eX23_setPlace_13 : decode cX23_setPlace 13 = .ok (.lload_n 3, 1) := by decide +kernel
theorem eX23_setPlace_14 : decode cX23_setPlace 14 = .ok (.lastore, 1) := by decide +kernel
theorem eX23_setPlace_15 : decode cX23_setPlace 15 = .ok (.aload_n 0, 1) := by decide +kernel
theorem eX23_setPlace_16 : decode cX23_setPlace 16 = .ok (.getfield 933, 3) := by decide +kernel
theorem eX23_setPlace_19 : decode cX23_setPlace 19 = .ok (.iload_n 2, 1) := by decide +kernel
theorem eX23_setPlace_20 : decode cX23_setPlace 20 = .ok (.iconst 1, 1) := by decide +kernel
theorem eX23_setPlace_21 : decode cX23_setPlace 21 = .ok (.bastore, 1) := by decide +kernel
theorem eX23_setPlace_22 : decode cX23_setPlace 22 = .ok (.return_, 1) := by decide +kernel
theorem eX23_setPlace_23 : decode cX23_setPlace 23 = .ok (.lload_n 3, 1) := by decide +kernel
theorem eX23_setPlace_24 : decode cX23_setPlace 24 = .ok (.l2i, 1) := by decide +kernel
theorem eX23_setPlace_25 : decode cX23_setPlace 25 = .ok (.istore 5, 2) := by decide +kernel
theorem eX23_setPlace_27 : decode cX23_setPlace 27 = .ok (.iload_n 2, 1) := by decide +kernel
theorem eX23_setPlace_28 : decode cX23_setPlace 28 = .ok (.istore 6, 2) := by decide +kernel
theorem eX23_setPlace_30 : decode cX23_setPlace 30 = .ok (.aload_n 0, 1) := by decide +kernel
theorem eX23_setPlace_31 : decode cX23_setPlace 31 = .ok (.aload_n 1, 1) := by decide +kernel
theorem eX23_setPlace_32 : decode cX23_setPlace 32 = .ok (.invokevirtual 980, 3) := by decide +kernel
theorem eX23_setPlace_35 : decode cX23_setPlace 35 = .ok (.istore 7, 2) := by decide +kernel
theorem eX23_setPlace_37 : decode cX23_setPlace 37 = .ok (.iload 7, 2) := by decide +kernel
theorem eX23_setPlace_39 : decode cX23_setPlace 39 = .ok (.ifCond .le 59, 3) := by decide +kernel
theorem eX23_setPlace_42 : decode cX23_setPlace 42 = .ok (.aload_n 0, 1) := by decide +kernel
theorem eX23_setPlace_43 : decode cX23_setPlace 43 = .ok (.getfield 930, 3) := by decide +kernel
theorem eX23_setPlace_46 : decode cX23_setPlace 46 = .ok (.iload 6, 2) := by decide +kernel
theorem eX23_setPlace_48 : decode cX23_setPlace 48 = .ok (.aload_n 0, 1) := by decide +kernel
theorem eX23_setPlace_49 : decode cX23_setPlace 49 = .ok (.getfield 930, 3) := by decide +kernel
theorem eX23_setPlace_52 : decode cX23_setPlace 52 = .ok (.iload 5, 2) := by decide +kernel
theorem eX23_setPlace_54 : decode cX23_setPlace 54 = .ok (.laload, 1) := by decide +kernel
theorem eX23_setPlace_55 : decode cX23_setPlace 55 = .ok (.lastore, 1) := by decide +kernel
theorem eX23_setPlace_56 : decode cX23_setPlace 56 = .ok (.aload_n 0, 1) := by decide +kernel
theorem eX23_setPlace_57 : decode cX23_setPlace 57 = .ok (.getfield 933, 3) := by decide +kernel
theorem eX23_setPlace_60 : decode cX23_setPlace 60 = .ok (.iload 6, 2) := by decide +kernel
theorem eX23_setPlace_62 : decode cX23_setPlace 62 = .ok (.iconst 1, 1) := by decide +kernel
theorem eX23_setPlace_63 : decode cX23_setPlace 63 = .ok (.bastore, 1) := by decide +kernel
theorem eX23_setPlace_64 : decode cX23_setPlace 64 = .ok (.aload_n 0, 1) := by decide +kernel
theorem eX23_setPlace_65 : decode cX23_setPlace 65 = .ok (.getfield 936, 3) := by decide +kernel
theorem eX23_setPlace_68 : decode cX23_setPlace 68 = .ok (.iload 5, 2) := by decide +kernel
theorem eX23_setPlace_70 : decode cX23_setPlace 70 = .ok (.iaload, 1) := by decide +kernel
theorem eX23_setPlace_71 : decode cX23_setPlace 71 = .ok (.istore 8, 2) := by decide +kernel
theorem eX23_setPlace_73 : decode cX23_setPlace 73 = .ok (.aload_n 0, 1) := by decide +kernel
theorem eX23_setPlace_74 : decode cX23_setPlace 74 = .ok (.iload 5, 2) := by decide +kernel
theorem eX23_setPlace_76 : decode cX23_setPlace 76 = .ok (.invokevirtual 986, 3) := by decide +kernel
theorem eX23_setPlace_79 : decode cX23_setPlace 79 = .ok (.iload 8, 2) := by decide +kernel
theorem eX23_setPlace_81 : decode cX23_setPlace 81 = .ok (.istore 5, 2) := by decide +kernel
theorem eX23_setPlace_83 : decode cX23_setPlace 83 = .ok (.aload_n 0, 1) := by decide +kernel
theorem eX23_setPlace_84 : decode cX23_setPlace 84 = .ok (.getfield 936, 3) := by decide +kernel
theorem eX23_setPlace_87 : decode cX23_setPlace 87 = .ok (.iload 6, 2) := by decide +kernel
theorem eX23_setPlace_89 : decode cX23_setPlace 89 = .ok (.iaload, 1) := by decide +kernel
theorem eX23_setPlace_90 : decode cX23_setPlace 90 = .ok (.istore 6, 2) := by decide +kernel
theorem eX23_setPlace_92 : decode cX23_setPlace 92 = .ok (.iinc 7 (-1), 3) := by decide +kernel
theorem eX23_setPlace_95 : decode cX23_setPlace 95 = .ok (.goto (-58), 3) := by decide +kernel
theorem eX23_setPlace_98 : decode cX23_setPlace 98 = .ok (.return_, 1) := by decide +kernel
theorem eX23_takePlace_0 : decode cX23_takePlace 0 = .ok (.aload_n 1, 1) := by decide +kernel
theorem eX23_takePlace_1 : decode cX23_takePlace 1 = .ok (.getfield 386, 3) := by decide +kernel
theorem eX23_takePlace_4 : decode cX23_takePlace 4 = .ok (.iconst 3, 1) := by decide +kernel
theorem eX23_takePlace_5 : decode cX23_takePlace 5 = .ok (.if_icmp .eq 17, 3) := by decide +kernel
theorem eX23_takePlace_8 : decode cX23_takePlace 8 = .ok (.aload_n 0, 1) := by decide +kernel
theorem eX23_takePlace_9 : decode cX23_takePlace 9 = .ok (.getfield 933, 3) := by decide +kernel
theorem eX23_takePlace_12 : decode cX23_takePlace 12 = .ok (.iload_n 2, 1) := by decide +kernel
theorem eX23_takePlace_13 : decode cX23_takePlace 13 = .ok (.iconst 0, 1) := by decide +kernel
theorem eX23_takePlace_14 : decode cX23_takePlace 14 = .ok (.bastore, 1) := by decide +kernel
theorem eX23_takePlace_15 : decode cX23_takePlace 15 = .ok (.aload_n 0, 1) := by decide +kernel
theorem eX23_takePlace_16 : decode cX23_takePlace 16 = .ok (.getfield 930, 3) := by decide +kernel
theorem eX23_takePlace_19 : decode cX23_takePlace 19 = .ok (.iload_n 2, 1) := by decide +kernel
theorem eX23_takePlace_20 : decode cX23_takePlace 20 = .ok (.laload, 1) := by decide +kernel
theorem eX23_takePlace_21 : decode cX23_takePlace 21 = .ok (.lreturn, 1) := by decide +kernel
theorem eX23_takePlace_22 : decode cX23_takePlace 22 = .ok (.aload_n 0, 1) := by decide +kernel
theorem eX23_takePlace_23 : decode cX23_takePlace 23 = .ok (.aload_n 1, 1) := by decide +kernel
theorem eX23_takePlace_24 : decode cX23_takePlace 24 = .ok (.invokevirtual 989, 3) := by decide +kernel
theorem eX23_takePlace_27 : decode cX23_takePlace 27 = .ok (.istore_n 3, 1) := by decide +kernel
theorem eX23_takePlace_28 : decode cX23_takePlace 28 = .ok (.iload_n 3, 1) := by decide +kernel
theorem eX23_takePlace_29 : decode cX23_takePlace 29 = .ok (.istore 4, 2) := by decide +kernel
theorem eX23_takePlace_31 : decode cX23_takePlace 31 = .ok (.iload_n 2, 1) := by decide +kernel
theorem eX23_takePlace_32 : decode cX23_takePlace 32 = .ok (.istore 5, 2) := by decide +kernel
theorem eX23_takePlace_34 : decode cX23_takePlace 34 = .ok (.aload_n 0, 1) := by decide +kernel
theorem eX23_takePlace_35 : decode cX23_takePlace 35 = .ok (.aload_n 1, 1) := by decide +kernel
theorem eX23_takePlace_36 : decode cX23_takePlace 36 = .ok (.invokevirtual 980, 3) := by decide +kernel
theorem eX23_takePlace_39 : decode cX23_takePlace 39 = .ok (.istore 6, 2) := by decide +kernel
theorem eX23_takePlace_41 : decode cX23_takePlace 41 = .ok (.iload 6, 2) := by decide +kernel
theorem eX23_takePlace_43 : decode cX23_takePlace 43 = .ok (.ifCond .le 57, 3) := by decide +kernel
theorem eX23_takePlace_46 : decode cX23_takePlace 46 = .ok (.aload_n 0, 1) := by decide +kernel
theorem eX23_takePlace_47 : decode cX23_takePlace 47 = .ok (.getfield 930, 3) := by decide +kernel
theorem eX23_takePlace_50 : decode cX23_takePlace 50 = .ok (.iload 4, 2) := by decide +kernel
theorem eX23_takePlace_52 : decode cX23_takePlace 52 = .ok (.aload_n 0, 1) := by decide +kernel
theorem eX23_takePlace_53 : decode cX23_takePlace 53 = .ok (.getfield 930, 3) := by decide +kernel
theorem eX23_takePlace_56 : decode cX23_takePlace 56 = .ok (.iload 5, 2) := by decide +kernel
theorem eX23_takePlace_58 : decode cX23_takePlace 58 = .ok (.laload, 1) := by decide +kernel
theorem eX23_takePlace_59 : decode cX23_takePlace 59 = .ok (.lastore, 1) := by decide +kernel
theorem eX23_takePlace_60 : decode cX23_takePlace 60 = .ok (.aload_n 0, 1) := by decide +kernel
theorem eX23_takePlace_61 : decode cX23_takePlace 61 = .ok (.getfield 933, 3) := by decide +kernel
theorem eX23_takePlace_64 : decode cX23_takePlace 64 = .ok (.iload 4, 2) := by decide +kernel
theorem eX23_takePlace_66 : decode cX23_takePlace 66 = .ok (.iconst 1, 1) := by decide +kernel
theorem eX23_takePlace_67 : decode cX23_takePlace 67 = .ok (.bastore, 1) := by decide +kernel
theorem eX23_takePlace_68 : decode cX23_takePlace 68 = .ok (.aload_n 0, 1) := by decide +kernel
theorem eX23_takePlace_69 : decode cX23_takePlace 69 = .ok (.getfield 933, 3) := by decide +kernel
theorem eX23_takePlace_72 : decode cX23_takePlace 72 = .ok (.iload 5, 2) := by decide +kernel
theorem eX23_takePlace_74 : decode cX23_takePlace 74 = .ok (.iconst 0, 1) := by decide +kernel
theorem eX23_takePlace_75 : decode cX23_takePlace 75 = .ok (.bastore, 1) := by decide +kernel
theorem eX23_takePlace_76 : decode cX23_takePlace 76 = .ok (.aload_n 0, 1) := by decide +kernel
theorem eX23_takePlace_77 : decode cX23_takePlace 77 = .ok (.getfield 936, 3) := by decide +kernel
theorem eX23_takePlace_80 : decode cX23_takePlace 80 = .ok (.iload 4, 2) := by decide +kernel
theorem eX23_takePlace_82 : decode cX23_takePlace 82 = .ok (.iaload, 1) := by decide +kernel
theorem eX23_takePlace_83 : decode cX23_takePlace 83 = .ok (.istore 4, 2) := by decide +kernel
theorem eX23_takePlace_85 : decode cX23_takePlace 85 = .ok (.aload_n 0, 1) := by decide +kernel
theorem eX23_takePlace_86 : decode cX23_takePlace 86 = .ok (.getfield 936, 3) := by decide +kernel
theorem eX23_takePlace_89 : decode cX23_takePlace 89 = .ok (.iload 5, 2) := by decide +kernel
theorem eX23_takePlace_91 : decode cX23_takePlace 91 = .ok (.iaload, 1) := by decide +kernel
theorem eX23_takePlace_92 : decode cX23_takePlace 92 = .ok (.istore 5, 2) := by decide +kernel
theorem eX23_takePlace_94 : decode cX23_takePlace 94 = .ok (.iinc 6 (-1), 3) := by decide +kernel
theorem eX23_takePlace_97 : decode cX23_takePlace 97 = .ok (.goto (-56), 3) := by decide +kernel
theorem eX23_takePlace_100 : decode cX23_takePlace 100 = .ok (.iload_n 3, 1) := by decide +kernel
theorem eX23_takePlace_101 : decode cX23_takePlace 101 = .ok (.i2l, 1) := by decide +kernel
theorem eX23_takePlace_102 : decode cX23_takePlace 102 = .ok (.lreturn, 1) := by decide +kernel
theorem eX23_leaf_0 : decode cX23_leaf 0 = .ok (.aload_n 0, 1) := by decide +kernel
theorem eX23_leaf_1 : decode cX23_leaf 1 = .ok (.invokevirtual 977, 3) := by decide +kernel
theorem eX23_leaf_4 : decode cX23_leaf 4 = .ok (.istore_n 3, 1) := by decide +kernel
theorem eX23_leaf_5 : decode cX23_leaf 5 = .ok (.aload_n 0, 1) := by decide +kernel
theorem eX23_leaf_6 : decode cX23_leaf 6 = .ok (.getfield 930, 3) := by decide +kernel
theorem eX23_leaf_9 : decode cX23_leaf 9 = .ok (.iload_n 3, 1) := by decide +kernel
theorem eX23_leaf_10 : decode cX23_leaf 10 = .ok (.lload_n 1, 1) := by decide +kernel
theorem eX23_leaf_11 : decode cX23_leaf 11 = .ok (.lastore, 1) := by decide +kernel
theorem eX23_leaf_12 : decode cX23_leaf 12 = .ok (.aload_n 0, 1) := by decide +kernel
theorem eX23_leaf_13 : decode cX23_leaf 13 = .ok (.getfield 933, 3) := by decide +kernel
theorem eX23_leaf_16 : decode cX23_leaf 16 = .ok (.iload_n 3, 1) := by decide +kernel
theorem eX23_leaf_17 : decode cX23_leaf 17 = .ok (.iconst 1, 1) := by decide +kernel
theorem eX23_leaf_18 : decode cX23_leaf 18 = .ok (.bastore, 1) := by decide +kernel
theorem eX23_leaf_19 : decode cX23_leaf 19 = .ok (.iload_n 3, 1) := by decide +kernel
theorem eX23_leaf_20 : decode cX23_leaf 20 = .ok (.ireturn, 1) := by decide +kernel
theorem eX23_freshPlace_0 : decode cX23_freshPlace 0 = .ok (.aload_n 1, 1) := by decide +kernel
theorem eX23_freshPlace_1 : decode cX23_freshPlace 1 = .ok (.getfield 386, 3) := by decide +kernel
theorem eX23_freshPlace_4 : decode cX23_freshPlace 4 = .ok (.iconst 3, 1) := by decide +kernel
theorem eX23_freshPlace_5 : decode cX23_freshPlace 5 = .ok (.if_icmp .ne 8, 3) := by decide +kernel
theorem eX23_freshPlace_8 : decode cX23_freshPlace 8 = .ok (.lload_n 2, 1) := by decide +kernel
theorem eX23_freshPlace_9 : decode cX23_freshPlace 9 = .ok (.l2i, 1) := by decide +kernel
theorem eX23_freshPlace_10 : decode cX23_freshPlace 10 = .ok (.goto 8, 3) := by decide +kernel
theorem eX23_freshPlace_13 : decode cX23_freshPlace 13 = .ok (.aload_n 0, 1) := by decide +kernel
theorem eX23_freshPlace_14 : decode cX23_freshPlace 14 = .ok (.lload_n 2, 1) := by decide +kernel
theorem eX23_freshPlace_15 : decode cX23_freshPlace 15 = .ok (.invokevirtual 992, 3) := by decide +kernel
theorem eX23_freshPlace_18 : decode cX23_freshPlace 18 = .ok (.ireturn, 1) := by decide +kernel
theorem eX23_kidOf_0 : decode cX23_kidOf 0 = .ok (.aload_n 0, 1) := by decide +kernel
theorem eX23_kidOf_1 : decode cX23_kidOf 1 = .ok (.getfield 930, 3) := by decide +kernel
theorem eX23_kidOf_4 : decode cX23_kidOf 4 = .ok (.iload_n 1, 1) := by decide +kernel
theorem eX23_kidOf_5 : decode cX23_kidOf 5 = .ok (.laload, 1) := by decide +kernel
theorem eX23_kidOf_6 : decode cX23_kidOf 6 = .ok (.ldc2_w 995, 3) := by decide +kernel
theorem eX23_kidOf_9 : decode cX23_kidOf 9 = .ok (.land, 1) := by decide +kernel
theorem eX23_kidOf_10 : decode cX23_kidOf 10 = .ok (.l2i, 1) := by decide +kernel
theorem eX23_kidOf_11 : decode cX23_kidOf 11 = .ok (.ireturn, 1) := by decide +kernel
theorem eX23_variantOf__0 : decode cX23_variantOf_ 0 = .ok (.aload_n 0, 1) := by decide +kernel
theorem eX23_variantOf__1 : decode cX23_variantOf_ 1 = .ok (.getfield 930, 3) := by decide +kernel
theorem eX23_variantOf__4 : decode cX23_variantOf_ 4 = .ok (.iload_n 1, 1) := by decide +kernel
theorem eX23_variantOf__5 : decode cX23_variantOf_ 5 = .ok (.laload, 1) := by decide +kernel
theorem eX23_variantOf__6 : decode cX23_variantOf_ 6 = .ok (.bipush 20, 2) := by decide +kernel
theorem eX23_variantOf__8 : decode cX23_variantOf_ 8 = .ok (.lshr, 1) := by decide +kernel
theorem eX23_variantOf__9 : decode cX23_variantOf_ 9 = .ok (.ldc2_w 995, 3) := by decide +kernel
theorem eX23_variantOf__12 : decode cX23_variantOf_ 12 = .ok (.land, 1) := by decide +kernel
theorem eX23_variantOf__13 : decode cX23_variantOf_ 13 = .ok (.l2i, 1) := by decide +kernel
theorem eX23_variantOf__14 : decode cX23_variantOf_ 14 = .ok (.ireturn, 1) := by decide +kernel
theorem eX23_blockLong_0 : decode cX23_blockLong 0 = .ok (.aload_n 0, 1) := by decide +kernel
theorem eX23_blockLong_1 : decode cX23_blockLong 1 = .ok (.getfield 930, 3) := by decide +kernel
theorem eX23_blockLong_4 : decode cX23_blockLong 4 = .ok (.iload_n 1, 1) := by decide +kernel
theorem eX23_blockLong_5 : decode cX23_blockLong 5 = .ok (.laload, 1) := by decide +kernel
theorem eX23_blockLong_6 : decode cX23_blockLong 6 = .ok (.bipush 40, 2) := by decide +kernel
theorem eX23_blockLong_8 : decode cX23_blockLong 8 = .ok (.lshr, 1) := by decide +kernel
theorem eX23_blockLong_9 : decode cX23_blockLong 9 = .ok (.l2i, 1) := by decide +kernel
theorem eX23_blockLong_10 : decode cX23_blockLong 10 = .ok (.ireturn, 1) := by decide +kernel
theorem eX23_findRoom_0 : decode cX23_findRoom 0 = .ok (.iconst 0, 1) := by decide +kernel
theorem eX23_findRoom_1 : decode cX23_findRoom 1 = .ok (.istore_n 2, 1) := by decide +kernel
theorem eX23_findRoom_2 : decode cX23_findRoom 2 = .ok (.iconst 0, 1) := by decide +kernel
theorem eX23_findRoom_3 : decode cX23_findRoom 3 = .ok (.istore_n 3, 1) := by decide +kernel
theorem eX23_findRoom_4 : decode cX23_findRoom 4 = .ok (.iload_n 3, 1) := by decide +kernel
theorem eX23_findRoom_5 : decode cX23_findRoom 5 = .ok (.aload_n 0, 1) := by decide +kernel
theorem eX23_findRoom_6 : decode cX23_findRoom 6 = .ok (.getfield 968, 3) := by decide +kernel
theorem eX23_findRoom_9 : decode cX23_findRoom 9 = .ok (.if_icmp .ge 37, 3) := by decide +kernel
theorem eX23_findRoom_12 : decode cX23_findRoom 12 = .ok (.aload_n 0, 1) := by decide +kernel
theorem eX23_findRoom_13 : decode cX23_findRoom 13 = .ok (.getfield 939, 3) := by decide +kernel
theorem eX23_findRoom_16 : decode cX23_findRoom 16 = .ok (.iload_n 3, 1) := by decide +kernel
theorem eX23_findRoom_17 : decode cX23_findRoom 17 = .ok (.baload, 1) := by decide +kernel
theorem eX23_findRoom_18 : decode cX23_findRoom 18 = .ok (.ifCond .eq 7, 3) := by decide +kernel
theorem eX23_findRoom_21 : decode cX23_findRoom 21 = .ok (.iconst 0, 1) := by decide +kernel
theorem eX23_findRoom_22 : decode cX23_findRoom 22 = .ok (.goto 6, 3) := by decide +kernel
theorem eX23_findRoom_25 : decode cX23_findRoom 25 = .ok (.iload_n 2, 1) := by decide +kernel
theorem eX23_findRoom_26 : decode cX23_findRoom 26 = .ok (.iconst 1, 1) := by decide +kernel
theorem eX23_findRoom_27 : decode cX23_findRoom 27 = .ok (.iadd, 1) := by decide +kernel
theorem eX23_findRoom_28 : decode cX23_findRoom 28 = .ok (.istore_n 2, 1) := by decide +kernel
theorem eX23_findRoom_29 : decode cX23_findRoom 29 = .ok (.iload_n 2, 1) := by decide +kernel
theorem eX23_findRoom_30 : decode cX23_findRoom 30 = .ok (.iload_n 1, 1) := by decide +kernel
theorem eX23_findRoom_31 : decode cX23_findRoom 31 = .ok (.if_icmp .ne 9, 3) := by decide +kernel
theorem eX23_findRoom_34 : decode cX23_findRoom 34 = .ok (.iload_n 3, 1) := by decide +kernel
theorem eX23_findRoom_35 : decode cX23_findRoom 35 = .ok (.iload_n 1, 1) := by decide +kernel
theorem eX23_findRoom_36 : decode cX23_findRoom 36 = .ok (.isub, 1) := by decide +kernel
theorem eX23_findRoom_37 : decode cX23_findRoom 37 = .ok (.iconst 1, 1) := by decide +kernel
theorem eX23_findRoom_38 : decode cX23_findRoom 38 = .ok (.iadd, 1) := by decide +kernel
theorem eX23_findRoom_39 : decode cX23_findRoom 39 = .ok (.ireturn, 1) := by decide +kernel
theorem eX23_findRoom_40 : decode cX23_findRoom 40 = .ok (.iinc 3 1, 3) := by decide +kernel
theorem eX23_findRoom_43 : decode cX23_findRoom 43 = .ok (.goto (-39), 3) := by decide +kernel
theorem eX23_findRoom_46 : decode cX23_findRoom 46 = .ok (.iconst (-1), 1) := by decide +kernel
theorem eX23_findRoom_47 : decode cX23_findRoom 47 = .ok (.ireturn, 1) := by decide +kernel
theorem eX23_freeBlock_0 : decode cX23_freeBlock 0 = .ok (.aload_n 0, 1) := by decide +kernel
theorem eX23_freeBlock_1 : decode cX23_freeBlock 1 = .ok (.iload_n 1, 1) := by decide +kernel
theorem eX23_freeBlock_2 : decode cX23_freeBlock 2 = .ok (.invokevirtual 997, 3) := by decide +kernel
theorem eX23_freeBlock_5 : decode cX23_freeBlock 5 = .ok (.istore_n 2, 1) := by decide +kernel
theorem eX23_freeBlock_6 : decode cX23_freeBlock 6 = .ok (.aload_n 0, 1) := by decide +kernel
theorem eX23_freeBlock_7 : decode cX23_freeBlock 7 = .ok (.iload_n 1, 1) := by decide +kernel
theorem eX23_freeBlock_8 : decode cX23_freeBlock 8 = .ok (.invokevirtual 1000, 3) := by decide +kernel
theorem eX23_freeBlock_11 : decode cX23_freeBlock 11 = .ok (.istore_n 3, 1) := by decide +kernel
theorem eX23_freeBlock_12 : decode cX23_freeBlock 12 = .ok (.iconst 0, 1) := by decide +kernel
theorem eX23_freeBlock_13 : decode cX23_freeBlock 13 = .ok (.istore 4, 2) := by decide +kernel
theorem eX23_freeBlock_15 : decode cX23_freeBlock 15 = .ok (.iload 4, 2) := by decide +kernel
theorem eX23_freeBlock_17 : decode cX23_freeBlock 17 = .ok (.iload_n 2, 1) := by decide +kernel
theorem eX23_freeBlock_18 : decode cX23_freeBlock 18 = .ok (.if_icmp .ge 19, 3) := by decide +kernel
theorem eX23_freeBlock_21 : decode cX23_freeBlock 21 = .ok (.aload_n 0, 1) := by decide +kernel
theorem eX23_freeBlock_22 : decode cX23_freeBlock 22 = .ok (.getfield 939, 3) := by decide +kernel
theorem eX23_freeBlock_25 : decode cX23_freeBlock 25 = .ok (.iload_n 3, 1) := by decide +kernel
theorem eX23_freeBlock_26 : decode cX23_freeBlock 26 = .ok (.iload 4, 2) := by decide +kernel
theorem eX23_freeBlock_28 : decode cX23_freeBlock 28 = .ok (.iadd, 1) := by decide +kernel
theorem eX23_freeBlock_29 : decode cX23_freeBlock 29 = .ok (.iconst 0, 1) := by decide +kernel
theorem eX23_freeBlock_30 : decode cX23_freeBlock 30 = .ok (.bastore, 1) := by decide +kernel
theorem eX23_freeBlock_31 : decode cX23_freeBlock 31 = .ok (.iinc 4 1, 3) := by decide +kernel
theorem eX23_freeBlock_34 : decode cX23_freeBlock 34 = .ok (.goto (-19), 3) := by decide +kernel
theorem eX23_freeBlock_37 : decode cX23_freeBlock 37 = .ok (.aload_n 0, 1) := by decide +kernel
theorem eX23_freeBlock_38 : decode cX23_freeBlock 38 = .ok (.dup, 1) := by decide +kernel
theorem eX23_freeBlock_39 : decode cX23_freeBlock 39 = .ok (.getfield 1002, 3) := by decide +kernel
theorem eX23_freeBlock_42 : decode cX23_freeBlock 42 = .ok (.iload_n 2, 1) := by decide +kernel
theorem eX23_freeBlock_43 : decode cX23_freeBlock 43 = .ok (.isub, 1) := by decide +kernel
theorem eX23_freeBlock_44 : decode cX23_freeBlock 44 = .ok (.putfield 1002, 3) := by decide +kernel
theorem eX23_freeBlock_47 : decode cX23_freeBlock 47 = .ok (.return_, 1) := by decide +kernel
theorem eX23_pop_0 : decode cX23_pop 0 = .ok (.aload_n 0, 1) := by decide +kernel
theorem eX23_pop_1 : decode cX23_pop 1 = .ok (.dup, 1) := by decide +kernel
theorem eX23_pop_2 : decode cX23_pop 2 = .ok (.getfield 1073, 3) := by decide +kernel
theorem eX23_pop_5 : decode cX23_pop 5 = .ok (.iconst 1, 1) := by decide +kernel
theorem eX23_pop_6 : decode cX23_pop 6 = .ok (.isub, 1) := by decide +kernel
theorem eX23_pop_7 : decode cX23_pop 7 = .ok (.putfield 1073, 3) := by decide +kernel
theorem eX23_pop_10 : decode cX23_pop 10 = .ok (.aload_n 0, 1) := by decide +kernel
theorem eX23_pop_11 : decode cX23_pop 11 = .ok (.getfield 942, 3) := by decide +kernel
theorem eX23_pop_14 : decode cX23_pop 14 = .ok (.aload_n 0, 1) := by decide +kernel
theorem eX23_pop_15 : decode cX23_pop 15 = .ok (.getfield 1073, 3) := by decide +kernel
theorem eX23_pop_18 : decode cX23_pop 18 = .ok (.laload, 1) := by decide +kernel
theorem eX23_pop_19 : decode cX23_pop 19 = .ok (.lreturn, 1) := by decide +kernel
theorem eX23_push_0 : decode cX23_push 0 = .ok (.aload_n 0, 1) := by decide +kernel
theorem eX23_push_1 : decode cX23_push 1 = .ok (.getfield 942, 3) := by decide +kernel
theorem eX23_push_4 : decode cX23_push 4 = .ok (.aload_n 0, 1) := by decide +kernel
theorem eX23_push_5 : decode cX23_push 5 = .ok (.getfield 1073, 3) := by decide +kernel
theorem eX23_push_8 : decode cX23_push 8 = .ok (.lload_n 1, 1) := by decide +kernel
theorem eX23_push_9 : decode cX23_push 9 = .ok (.lastore, 1) := by decide +kernel
theorem eX23_push_10 : decode cX23_push 10 = .ok (.aload_n 0, 1) := by decide +kernel
theorem eX23_push_11 : decode cX23_push 11 = .ok (.dup, 1) := by decide +kernel
theorem eX23_push_12 : decode cX23_push 12 = .ok (.getfield 1073, 3) := by decide +kernel
theorem eX23_push_15 : decode cX23_push 15 = .ok (.iconst 1, 1) := by decide +kernel
theorem eX23_push_16 : decode cX23_push 16 = .ok (.iadd, 1) := by decide +kernel
theorem eX23_push_17 : decode cX23_push 17 = .ok (.putfield 1073, 3) := by decide +kernel
theorem eX23_push_20 : decode cX23_push 20 = .ok (.return_, 1) := by decide +kernel
theorem eX23_boxUp_0 : decode cX23_boxUp 0 = .ok (.aload_n 0, 1) := by decide +kernel
theorem eX23_boxUp_1 : decode cX23_boxUp 1 = .ok (.aload_n 1, 1) := by decide +kernel
theorem eX23_boxUp_2 : decode cX23_boxUp 2 = .ok (.invokevirtual 447, 3) := by decide +kernel
theorem eX23_boxUp_5 : decode cX23_boxUp 5 = .ok (.istore_n 2, 1) := by decide +kernel
theorem eX23_boxUp_6 : decode cX23_boxUp 6 = .ok (.aload_n 0, 1) := by decide +kernel
theorem eX23_boxUp_7 : decode cX23_boxUp 7 = .ok (.iload_n 2, 1) := by decide +kernel
theorem eX23_boxUp_8 : decode cX23_boxUp 8 = .ok (.invokevirtual 1005, 3) := by decide +kernel
theorem eX23_boxUp_11 : decode cX23_boxUp 11 = .ok (.istore_n 3, 1) := by decide +kernel
theorem eX23_boxUp_12 : decode cX23_boxUp 12 = .ok (.iload_n 3, 1) := by decide +kernel
theorem eX23_boxUp_13 : decode cX23_boxUp 13 = .ok (.ifCond .ge 10, 3) := by decide +kernel
theorem eX23_boxUp_16 : decode cX23_boxUp 16 = .ok (.aload_n 0, 1) := by decide +kernel
theorem eX23_boxUp_17 : decode cX23_boxUp 17 = .ok (.bipush 9, 2) := by decide +kernel
theorem eX23_boxUp_19 : decode cX23_boxUp 19 = .ok (.putfield 80, 3) := by decide +kernel
theorem eX23_boxUp_22 : decode cX23_boxUp 22 = .ok (.return_, 1) := by decide +kernel
theorem eX23_boxUp_23 : decode cX23_boxUp 23 = .ok (.iconst 0, 1) := by decide +kernel
theorem eX23_boxUp_24 : decode cX23_boxUp 24 = .ok (.istore 4, 2) := by decide +kernel
theorem eX23_boxUp_26 : decode cX23_boxUp 26 = .ok (.iload 4, 2) := by decide +kernel
theorem eX23_boxUp_28 : decode cX23_boxUp 28 = .ok (.iload_n 2, 1) := by decide +kernel
theorem eX23_boxUp_29 : decode cX23_boxUp 29 = .ok (.if_icmp .ge 19, 3) := by decide +kernel
theorem eX23_boxUp_32 : decode cX23_boxUp 32 = .ok (.aload_n 0, 1) := by decide +kernel
theorem eX23_boxUp_33 : decode cX23_boxUp 33 = .ok (.getfield 939, 3) := by decide +kernel
theorem eX23_boxUp_36 : decode cX23_boxUp 36 = .ok (.iload_n 3, 1) := by decide +kernel
theorem eX23_boxUp_37 : decode cX23_boxUp 37 = .ok (.iload 4, 2) := by decide +kernel
theorem eX23_boxUp_39 : decode cX23_boxUp 39 = .ok (.iadd, 1) := by decide +kernel
theorem eX23_boxUp_40 : decode cX23_boxUp 40 = .ok (.iconst 1, 1) := by decide +kernel
theorem eX23_boxUp_41 : decode cX23_boxUp 41 = .ok (.bastore, 1) := by decide +kernel
theorem eX23_boxUp_42 : decode cX23_boxUp 42 = .ok (.iinc 4 1, 3) := by decide +kernel
theorem eX23_boxUp_45 : decode cX23_boxUp 45 = .ok (.goto (-19), 3) := by decide +kernel
theorem eX23_boxUp_48 : decode cX23_boxUp 48 = .ok (.aload_n 0, 1) := by decide +kernel
theorem eX23_boxUp_49 : decode cX23_boxUp 49 = .ok (.dup, 1) := by decide +kernel
theorem eX23_boxUp_50 : decode cX23_boxUp 50 = .ok (.getfield 1002, 3) := by decide +kernel
theorem eX23_boxUp_53 : decode cX23_boxUp 53 = .ok (.iload_n 2, 1) := by decide +kernel
theorem eX23_boxUp_54 : decode cX23_boxUp 54 = .ok (.iadd, 1) := by decide +kernel
theorem eX23_boxUp_55 : decode cX23_boxUp 55 = .ok (.putfield 1002, 3) := by decide +kernel
theorem eX23_boxUp_58 : decode cX23_boxUp 58 = .ok (.aload_n 0, 1) := by decide +kernel
theorem eX23_boxUp_59 : decode cX23_boxUp 59 = .ok (.getfield 1002, 3) := by decide +kernel
theorem eX23_boxUp_62 : decode cX23_boxUp 62 = .ok (.aload_n 0, 1) := by decide +kernel
theorem eX23_boxUp_63 : decode cX23_boxUp 63 = .ok (.getfield 1008, 3) := by decide +kernel
theorem eX23_boxUp_66 : decode cX23_boxUp 66 = .ok (.if_icmp .le 11, 3) := by decide +kernel
theorem eX23_boxUp_69 : decode cX23_boxUp 69 = .ok (.aload_n 0, 1) := by decide +kernel
theorem eX23_boxUp_70 : decode cX23_boxUp 70 = .ok (.aload_n 0, 1) := by decide +kernel
theorem eX23_boxUp_71 : decode cX23_boxUp 71 = .ok (.getfield 1002, 3) := by decide +kernel
theorem eX23_boxUp_74 : decode cX23_boxUp 74 = .ok (.putfield 1008, 3) := by decide +kernel
theorem eX23_boxUp_77 : decode cX23_boxUp 77 = .ok (.aload_n 0, 1) := by decide +kernel
theorem eX23_boxUp_78 : decode cX23_boxUp 78 = .ok (.invokevirtual 977, 3) := by decide +kernel
theorem eX23_boxUp_81 : decode cX23_boxUp 81 = .ok (.istore 4, 2) := by decide +kernel
theorem eX23_boxUp_83 : decode cX23_boxUp 83 = .ok (.aload_n 0, 1) := by decide +kernel
theorem eX23_boxUp_84 : decode cX23_boxUp 84 = .ok (.getfield 930, 3) := by decide +kernel
theorem eX23_boxUp_87 : decode cX23_boxUp 87 = .ok (.iload 4, 2) := by decide +kernel
theorem eX23_boxUp_89 : decode cX23_boxUp 89 = .ok (.aload_n 0, 1) := by decide +kernel
theorem eX23_boxUp_90 : decode cX23_boxUp 90 = .ok (.aload_n 1, 1) := by decide +kernel
theorem eX23_boxUp_91 : decode cX23_boxUp 91 = .ok (.aload_n 0, 1) := by decide +kernel
theorem eX23_boxUp_92 : decode cX23_boxUp 92 = .ok (.invokevirtual 1011, 3) := by decide +kernel
theorem eX23_boxUp_95 : decode cX23_boxUp 95 = .ok (.invokevirtual 1015, 3) := by decide +kernel
theorem eX23_boxUp_98 : decode cX23_boxUp 98 = .ok (.i2l, 1) := by decide +kernel
theorem eX23_boxUp_99 : decode cX23_boxUp 99 = .ok (.iload_n 3, 1) := by decide +kernel
theorem eX23_boxUp_100 : decode cX23_boxUp 100 = .ok (.i2l, 1) := by decide +kernel
theorem eX23_boxUp_101 : decode cX23_boxUp 101 = .ok (.bipush 20, 2) := by decide +kernel
theorem eX23_boxUp_103 : decode cX23_boxUp 103 = .ok (.lshl, 1) := by decide +kernel
theorem eX23_boxUp_104 : decode cX23_boxUp 104 = .ok (.ladd, 1) := by decide +kernel
theorem eX23_boxUp_105 : decode cX23_boxUp 105 = .ok (.iload_n 2, 1) := by decide +kernel
theorem eX23_boxUp_106 : decode cX23_boxUp 106 = .ok (.i2l, 1) := by decide +kernel
theorem eX23_boxUp_107 : decode cX23_boxUp 107 = .ok (.bipush 40, 2) := by decide +kernel
theorem eX23_boxUp_109 : decode cX23_boxUp 109 = .ok (.lshl, 1) := by decide +kernel
theorem eX23_boxUp_110 : decode cX23_boxUp 110 = .ok (.ladd, 1) := by decide +kernel
theorem eX23_boxUp_111 : decode cX23_boxUp 111 = .ok (.lastore, 1) := by decide +kernel
theorem eX23_boxUp_112 : decode cX23_boxUp 112 = .ok (.aload_n 0, 1) := by decide +kernel
theorem eX23_boxUp_113 : decode cX23_boxUp 113 = .ok (.iload 4, 2) := by decide +kernel
theorem eX23_boxUp_115 : decode cX23_boxUp 115 = .ok (.i2l, 1) := by decide +kernel
theorem eX23_boxUp_116 : decode cX23_boxUp 116 = .ok (.invokevirtual 1019, 3) := by decide +kernel
theorem eX23_boxUp_119 : decode cX23_boxUp 119 = .ok (.return_, 1) := by decide +kernel
theorem eX23_later_0 : decode cX23_later 0 = .ok (.aload_n 0, 1) := by decide +kernel
theorem eX23_later_1 : decode cX23_later 1 = .ok (.getfield 951, 3) := by decide +kernel
theorem eX23_later_4 : decode cX23_later 4 = .ok (.aload_n 0, 1) := by decide +kernel
theorem eX23_later_5 : decode cX23_later 5 = .ok (.getfield 1023, 3) := by decide +kernel
theorem eX23_later_8 : decode cX23_later 8 = .ok (.iload_n 1, 1) := by decide +kernel
theorem eX23_later_9 : decode cX23_later 9 = .ok (.iastore, 1) := by decide +kernel
theorem eX23_later_10 : decode cX23_later 10 = .ok (.aload_n 0, 1) := by decide +kernel
theorem eX23_later_11 : decode cX23_later 11 = .ok (.getfield 954, 3) := by decide +kernel
theorem eX23_later_14 : decode cX23_later 14 = .ok (.aload_n 0, 1) := by decide +kernel
theorem eX23_later_15 : decode cX23_later 15 = .ok (.getfield 1023, 3) := by decide +kernel
theorem eX23_later_18 : decode cX23_later 18 = .ok (.aload_n 2, 1) := by decide +kernel
theorem eX23_later_19 : decode cX23_later 19 = .ok (.ifnonnull 7, 3) := by decide +kernel
theorem eX23_later_22 : decode cX23_later 22 = .ok (.iconst 0, 1) := by decide +kernel
theorem eX23_later_23 : decode cX23_later 23 = .ok (.goto 7, 3) := by decide +kernel
theorem eX23_later_26 : decode cX23_later 26 = .ok (.aload_n 2, 1) := by decide +kernel
theorem eX23_later_27 : decode cX23_later 27 = .ok (.getfield 394, 3) := by decide +kernel
theorem eX23_later_30 : decode cX23_later 30 = .ok (.iastore, 1) := by decide +kernel
theorem eX23_later_31 : decode cX23_later 31 = .ok (.aload_n 0, 1) := by decide +kernel
theorem eX23_later_32 : decode cX23_later 32 = .ok (.getfield 957, 3) := by decide +kernel
theorem eX23_later_35 : decode cX23_later 35 = .ok (.aload_n 0, 1) := by decide +kernel
theorem eX23_later_36 : decode cX23_later 36 = .ok (.getfield 1023, 3) := by decide +kernel
theorem eX23_later_39 : decode cX23_later 39 = .ok (.iload_n 3, 1) := by decide +kernel
theorem eX23_later_40 : decode cX23_later 40 = .ok (.iastore, 1) := by decide +kernel
theorem eX23_later_41 : decode cX23_later 41 = .ok (.aload_n 0, 1) := by decide +kernel
theorem eX23_later_42 : decode cX23_later 42 = .ok (.dup, 1) := by decide +kernel
theorem eX23_later_43 : decode cX23_later 43 = .ok (.getfield 1023, 3) := by decide +kernel
theorem eX23_later_46 : decode cX23_later 46 = .ok (.iconst 1, 1) := by decide +kernel
theorem eX23_later_47 : decode cX23_later 47 = .ok (.iadd, 1) := by decide +kernel
theorem eX23_later_48 : decode cX23_later 48 = .ok (.putfield 1023, 3) := by decide +kernel
theorem eX23_later_51 : decode cX23_later 51 = .ok (.return_, 1) := by decide +kernel
theorem eX23_laterParts_0 : decode cX23_laterParts 0 = .ok (.iload_n 2, 1) := by decide +kernel
theorem eX23_laterParts_1 : decode cX23_laterParts 1 = .ok (.iconst 1, 1) := by decide +kernel
theorem eX23_laterParts_2 : decode cX23_laterParts 2 = .ok (.isub, 1) := by decide +kernel
theorem eX23_laterParts_3 : decode cX23_laterParts 3 = .ok (.istore 5, 2) := by decide +kernel
theorem eX23_laterParts_5 : decode cX23_laterParts 5 = .ok (.iload 5, 2) := by decide +kernel
theorem eX23_laterParts_7 : decode cX23_laterParts 7 = .ok (.ifCond .lt 46, 3) := by decide +kernel
theorem eX23_laterParts_10 : decode cX23_laterParts 10 = .ok (.aload_n 0, 1) := by decide +kernel
theorem eX23_laterParts_11 : decode cX23_laterParts 11 = .ok (.aload_n 1, 1) := by decide +kernel
theorem eX23_laterParts_12 : decode cX23_laterParts 12 = .ok (.iload_n 3, 1) := by decide +kernel
theorem eX23_laterParts_13 : decode cX23_laterParts 13 = .ok (.iload 5, 2) := by decide +kernel
theorem eX23_laterParts_15 : decode cX23_laterParts 15 = .ok (.invokevirtual 1026, 3) := by decide +kernel
theorem eX23_laterParts_18 : decode cX23_laterParts 18 = .ok (.istore 6, 2) := by decide +kernel
theorem eX23_laterParts_20 : decode cX23_laterParts 20 = .ok (.iload 4, 2) := by decide +kernel
theorem eX23_laterParts_22 : decode cX23_laterParts 22 = .ok (.ifCond .eq 14, 3) := by decide +kernel
theorem eX23_laterParts_25 : decode cX23_laterParts 25 = .ok (.aload_n 0, 1) := by decide +kernel
theorem eX23_laterParts_26 : decode cX23_laterParts 26 = .ok (.iconst 1, 1) := by decide +kernel
theorem eX23_laterParts_27 : decode cX23_laterParts 27 = .ok (.aload_n 1, 1) := by decide +kernel
theorem eX23_laterParts_28 : decode cX23_laterParts 28 = .ok (.iload 5, 2) := by decide +kernel
theorem eX23_laterParts_30 : decode cX23_laterParts 30 = .ok (.aaload, 1) := by decide +kernel
theorem eX23_laterParts_31 : decode cX23_laterParts 31 = .ok (.iload 6, 2) := by decide +kernel
theorem eX23_laterParts_33 : decode cX23_laterParts 33 = .ok (.invokevirtual 1030, 3) := by decide +kernel
theorem eX23_laterParts_36 : decode cX23_laterParts 36 = .ok (.aload_n 0, 1) := by decide +kernel
theorem eX23_laterParts_37 : decode cX23_laterParts 37 = .ok (.iconst 0, 1) := by decide +kernel
theorem eX23_laterParts_38 : decode cX23_laterParts 38 = .ok (.aload_n 1, 1) := by decide +kernel
theorem eX23_laterParts_39 : decode cX23_laterParts 39 = .ok (.iload 5, 2) := by decide +kernel
theorem eX23_laterParts_41 : decode cX23_laterParts 41 = .ok (.aaload, 1) := by decide +kernel
theorem eX23_laterParts_42 : decode cX23_laterParts 42 = .ok (.iload 6, 2) := by decide +kernel
theorem eX23_laterParts_44 : decode cX23_laterParts 44 = .ok (.invokevirtual 1030, 3) := by decide +kernel
theorem eX23_laterParts_47 : decode cX23_laterParts 47 = .ok (.iinc 5 (-1), 3) := by decide +kernel
theorem eX23_laterParts_50 : decode cX23_laterParts 50 = .ok (.goto (-45), 3) := by decide +kernel
theorem eX23_laterParts_53 : decode cX23_laterParts 53 = .ok (.return_, 1) := by decide +kernel
theorem eX23_write_0 : decode cX23_write 0 = .ok (.aload_n 0, 1) := by decide +kernel
theorem eX23_write_1 : decode cX23_write 1 = .ok (.getfield 1061, 3) := by decide +kernel
theorem eX23_write_4 : decode cX23_write 4 = .ok (.sipush 4000, 3) := by decide +kernel
theorem eX23_write_7 : decode cX23_write 7 = .ok (.if_icmp .ne 4, 3) := by decide +kernel
theorem eX23_write_10 : decode cX23_write 10 = .ok (.return_, 1) := by decide +kernel
theorem eX23_write_11 : decode cX23_write 11 = .ok (.aload_n 0, 1) := by decide +kernel
theorem eX23_write_12 : decode cX23_write 12 = .ok (.getfield 960, 3) := by decide +kernel
theorem eX23_write_15 : decode cX23_write 15 = .ok (.aload_n 0, 1) := by decide +kernel
theorem eX23_write_16 : decode cX23_write 16 = .ok (.getfield 1064, 3) := by decide +kernel
theorem eX23_write_19 : decode cX23_write 19 = .ok (.aload_n 0, 1) := by decide +kernel
theorem eX23_write_20 : decode cX23_write 20 = .ok (.getfield 1061, 3) := by decide +kernel
theorem eX23_write_23 : decode cX23_write 23 = .ok (.iadd, 1) := by decide +kernel
theorem eX23_write_24 : decode cX23_write 24 = .ok (.sipush 4000, 3) := by decide +kernel
theorem eX23_write_27 : decode cX23_write 27 = .ok (.irem, 1) := by decide +kernel
theorem eX23_write_28 : decode cX23_write 28 = .ok (.iload_n 1, 1) := by decide +kernel
theorem eX23_write_29 : decode cX23_write 29 = .ok (.iastore, 1) := by decide +kernel
theorem eX23_write_30 : decode cX23_write 30 = .ok (.aload_n 0, 1) := by decide +kernel
theorem eX23_write_31 : decode cX23_write 31 = .ok (.dup, 1) := by decide +kernel
theorem eX23_write_32 : decode cX23_write 32 = .ok (.getfield 1061, 3) := by decide +kernel
theorem eX23_write_35 : decode cX23_write 35 = .ok (.iconst 1, 1) := by decide +kernel
theorem eX23_write_36 : decode cX23_write 36 = .ok (.iadd, 1) := by decide +kernel
theorem eX23_write_37 : decode cX23_write 37 = .ok (.putfield 1061, 3) := by decide +kernel
theorem eX23_write_40 : decode cX23_write 40 = .ok (.return_, 1) := by decide +kernel
theorem eX23_writeNumber_0 : decode cX23_writeNumber 0 = .ok (.lload_n 1, 1) := by decide +kernel
theorem eX23_writeNumber_1 : decode cX23_writeNumber 1 = .ok (.lconst 0, 1) := by decide +kernel
theorem eX23_writeNumber_2 : decode cX23_writeNumber 2 = .ok (.lcmp, 1) := by decide +kernel
theorem eX23_writeNumber_3 : decode cX23_writeNumber 3 = .ok (.ifCond .ge 9, 3) := by decide +kernel
theorem eX23_writeNumber_6 : decode cX23_writeNumber 6 = .ok (.aload_n 0, 1) := by decide +kernel
theorem eX23_writeNumber_7 : decode cX23_writeNumber 7 = .ok (.bipush 45, 2) := by decide +kernel
theorem eX23_writeNumber_9 : decode cX23_writeNumber 9 = .ok (.invokevirtual 1034, 3) := by decide +kernel
theorem eX23_writeNumber_12 : decode cX23_writeNumber 12 = .ok (.lconst 1, 1) := by decide +kernel
theorem eX23_writeNumber_13 : decode cX23_writeNumber 13 = .ok (.lstore_n 3, 1) := by decide +kernel
theorem eX23_writeNumber_14 : decode cX23_writeNumber 14 = .ok (.lload_n 1, 1) := by decide +kernel
theorem eX23_writeNumber_15 : decode cX23_writeNumber 15 = .ok (.lload_n 3, 1) := by decide +kernel
theorem eX23_writeNumber_16 : decode cX23_writeNumber 16 = .ok (.ldiv, 1) := by decide +kernel
theorem eX23_writeNumber_17 : decode cX23_writeNumber 17 = .ok (.ldc2_w 1067, 3) := by decide +kernel
theorem eX23_writeNumber_20 : decode cX23_writeNumber 20 = .ok (.lcmp, 1) := by decide +kernel
theorem eX23_writeNumber_21 : decode cX23_writeNumber 21 = .ok (.ifCond .gt 13, 3) := by decide +kernel
theorem eX23_writeNumber_24 : decode cX23_writeNumber 24 = .ok (.lload_n 1, 1) := by decide +kernel
theorem eX23_writeNumber_25 : decode cX23_writeNumber 25 = .ok (.lload_n 3, 1) := by decide +kernel
theorem eX23_writeNumber_26 : decode cX23_writeNumber 26 = .ok (.ldiv, 1) := by decide +kernel
theorem eX23_writeNumber_27 : decode cX23_writeNumber 27 = .ok (.ldc2_w 1069, 3) := by decide +kernel
theorem eX23_writeNumber_30 : decode cX23_writeNumber 30 = .ok (.lcmp, 1) := by decide +kernel
theorem eX23_writeNumber_31 : decode cX23_writeNumber 31 = .ok (.ifCond .ge 12, 3) := by decide +kernel
theorem eX23_writeNumber_34 : decode cX23_writeNumber 34 = .ok (.lload_n 3, 1) := by decide +kernel
theorem eX23_writeNumber_35 : decode cX23_writeNumber 35 = .ok (.ldc2_w 46, 3) := by decide +kernel
theorem eX23_writeNumber_38 : decode cX23_writeNumber 38 = .ok (.lmul, 1) := by decide +kernel
theorem eX23_writeNumber_39 : decode cX23_writeNumber 39 = .ok (.lstore_n 3, 1) := by decide +kernel
theorem eX23_writeNumber_40 : decode cX23_writeNumber 40 = .ok (.goto (-26), 3) := by decide +kernel
theorem eX23_writeNumber_43 : decode cX23_writeNumber 43 = .ok (.lload_n 3, 1) := by decide +kernel
theorem eX23_writeNumber_44 : decode cX23_writeNumber 44 = .ok (.lstore 5, 2) := by decide +kernel
theorem eX23_writeNumber_46 : decode cX23_writeNumber 46 = .ok (.lload 5, 2) := by decide +kernel
theorem eX23_writeNumber_48 : decode cX23_writeNumber 48 = .ok (.lconst 0, 1) := by decide +kernel
theorem eX23_writeNumber_49 : decode cX23_writeNumber 49 = .ok (.lcmp, 1) := by decide +kernel
theorem eX23_writeNumber_50 : decode cX23_writeNumber 50 = .ok (.ifCond .le 48, 3) := by decide +kernel
theorem eX23_writeNumber_53 : decode cX23_writeNumber 53 = .ok (.lload_n 1, 1) := by decide +kernel
theorem eX23_writeNumber_54 : decode cX23_writeNumber 54 = .ok (.lload 5, 2) := by decide +kernel
theorem eX23_writeNumber_56 : decode cX23_writeNumber 56 = .ok (.ldiv, 1) := by decide +kernel
theorem eX23_writeNumber_57 : decode cX23_writeNumber 57 = .ok (.ldc2_w 46, 3) := by decide +kernel
theorem eX23_writeNumber_60 : decode cX23_writeNumber 60 = .ok (.lrem, 1) := by decide +kernel
theorem eX23_writeNumber_61 : decode cX23_writeNumber 61 = .ok (.lstore 7, 2) := by decide +kernel
theorem eX23_writeNumber_63 : decode cX23_writeNumber 63 = .ok (.aload_n 0, 1) := by decide +kernel
theorem eX23_writeNumber_64 : decode cX23_writeNumber 64 = .ok (.ldc2_w 1071, 3) := by decide +kernel
theorem eX23_writeNumber_67 : decode cX23_writeNumber 67 = .ok (.lload 7, 2) := by decide +kernel
theorem eX23_writeNumber_69 : decode cX23_writeNumber 69 = .ok (.lconst 0, 1) := by decide +kernel
theorem eX23_writeNumber_70 : decode cX23_writeNumber 70 = .ok (.lcmp, 1) := by decide +kernel
theorem eX23_writeNumber_71 : decode cX23_writeNumber 71 = .ok (.ifCond .ge 9, 3) := by decide +kernel
theorem eX23_writeNumber_74 : decode cX23_writeNumber 74 = .ok (.lload 7, 2) := by decide +kernel
theorem eX23_writeNumber_76 : decode cX23_writeNumber 76 = .ok (.lneg, 1) := by decide +kernel
theorem eX23_writeNumber_77 : decode cX23_writeNumber 77 = .ok (.goto 5, 3) := by decide +kernel
theorem eX23_writeNumber_80 : decode cX23_writeNumber 80 = .ok (.lload 7, 2) := by decide +kernel
theorem eX23_writeNumber_82 : decode cX23_writeNumber 82 = .ok (.ladd, 1) := by decide +kernel
theorem eX23_writeNumber_83 : decode cX23_writeNumber 83 = .ok (.l2i, 1) := by decide +kernel
theorem eX23_writeNumber_84 : decode cX23_writeNumber 84 = .ok (.invokevirtual 1034, 3) := by decide +kernel
theorem eX23_writeNumber_87 : decode cX23_writeNumber 87 = .ok (.lload 5, 2) := by decide +kernel
theorem eX23_writeNumber_89 : decode cX23_writeNumber 89 = .ok (.ldc2_w 46, 3) := by decide +kernel
theorem eX23_writeNumber_92 : decode cX23_writeNumber 92 = .ok (.ldiv, 1) := by decide +kernel
theorem eX23_writeNumber_93 : decode cX23_writeNumber 93 = .ok (.lstore 5, 2) := by decide +kernel
theorem eX23_writeNumber_95 : decode cX23_writeNumber 95 = .ok (.goto (-49), 3) := by decide +kernel
theorem eX23_writeNumber_98 : decode cX23_writeNumber 98 = .ok (.return_, 1) := by decide +kernel
theorem eX23_dropValue_0 : decode cX23_dropValue 0 = .ok (.lload_n 2, 1) := by decide +kernel
theorem eX23_dropValue_1 : decode cX23_dropValue 1 = .ok (.l2i, 1) := by decide +kernel
theorem eX23_dropValue_2 : decode cX23_dropValue 2 = .ok (.istore 4, 2) := by decide +kernel
theorem eX23_dropValue_4 : decode cX23_dropValue 4 = .ok (.aload_n 1, 1) := by decide +kernel
theorem eX23_dropValue_5 : decode cX23_dropValue 5 = .ok (.getfield 386, 3) := by decide +kernel
theorem eX23_dropValue_8 : decode cX23_dropValue 8 = .ok (.iconst 2, 1) := by decide +kernel
theorem eX23_dropValue_9 : decode cX23_dropValue 9 = .ok (.if_icmp .ne 23, 3) := by decide +kernel
theorem eX23_dropValue_12 : decode cX23_dropValue 12 = .ok (.aload_n 0, 1) := by decide +kernel
theorem eX23_dropValue_13 : decode cX23_dropValue 13 = .ok (.bipush 100, 2) := by decide +kernel
theorem eX23_dropValue_15 : decode cX23_dropValue 15 = .ok (.invokevirtual 1034, 3) := by decide +kernel
theorem eX23_dropValue_18 : decode cX23_dropValue 18 = .ok (.aload_n 0, 1) := by decide +kernel
theorem eX23_dropValue_19 : decode cX23_dropValue 19 = .ok (.lload_n 2, 1) := by decide +kernel
theorem eX23_dropValue_20 : decode cX23_dropValue 20 = .ok (.invokevirtual 1037, 3) := by decide +kernel
theorem eX23_dropValue_23 : decode cX23_dropValue 23 = .ok (.aload_n 0, 1) := by decide +kernel
theorem eX23_dropValue_24 : decode cX23_dropValue 24 = .ok (.bipush 10, 2) := by decide +kernel
theorem eX23_dropValue_26 : decode cX23_dropValue 26 = .ok (.invokevirtual 1034, 3) := by decide +kernel
theorem eX23_dropValue_29 : decode cX23_dropValue 29 = .ok (.goto 152, 3) := by decide +kernel
theorem eX23_dropValue_32 : decode cX23_dropValue 32 = .ok (.aload_n 1, 1) := by decide +kernel
theorem eX23_dropValue_33 : decode cX23_dropValue 33 = .ok (.getfield 386, 3) := by decide +kernel
theorem eX23_dropValue_36 : decode cX23_dropValue 36 = .ok (.iconst 3, 1) := by decide +kernel
theorem eX23_dropValue_37 : decode cX23_dropValue 37 = .ok (.if_icmp .ne 37, 3) := by decide +kernel
theorem eX23_dropValue_40 : decode cX23_dropValue 40 = .ok (.aload_n 0, 1) := by decide +kernel
theorem eX23_dropValue_41 : decode cX23_dropValue 41 = .ok (.aload_n 0, 1) := by decide +kernel
theorem eX23_dropValue_42 : decode cX23_dropValue 42 = .ok (.getfield 232, 3) := by decide +kernel
theorem eX23_dropValue_45 : decode cX23_dropValue 45 = .ok (.aload_n 1, 1) := by decide +kernel
theorem eX23_dropValue_46 : decode cX23_dropValue 46 = .ok (.getfield 387, 3) := by decide +kernel
theorem eX23_dropValue_49 : decode cX23_dropValue 49 = .ok (.aaload, 1) := by decide +kernel
theorem eX23_dropValue_50 : decode cX23_dropValue 50 = .ok (.getfield 175, 3) := by decide +kernel
theorem eX23_dropValue_53 : decode cX23_dropValue 53 = .ok (.aload_n 0, 1) := by decide +kernel
theorem eX23_dropValue_54 : decode cX23_dropValue 54 = .ok (.getfield 232, 3) := by decide +kernel
theorem eX23_dropValue_57 : decode cX23_dropValue 57 = .ok (.aload_n 1, 1) := by decide +kernel
theorem eX23_dropValue_58 : decode cX23_dropValue 58 = .ok (.getfield 387, 3) := by decide +kernel
theorem eX23_dropValue_61 : decode cX23_dropValue 61 = .ok (.aaload, 1) := by decide +kernel
theorem eX23_dropValue_62 : decode cX23_dropValue 62 = .ok (.getfield 139, 3) := by decide +kernel
theorem eX23_dropValue_65 : decode cX23_dropValue 65 = .ok (.iload 4, 2) := by decide +kernel
theorem eX23_dropValue_67 : decode cX23_dropValue 67 = .ok (.iconst 1, 1) := by decide +kernel
theorem eX23_dropValue_68 : decode cX23_dropValue 68 = .ok (.invokevirtual 1040, 3) := by decide +kernel
theorem eX23_dropValue_71 : decode cX23_dropValue 71 = .ok (.goto 110, 3) := by decide +kernel
theorem eX23_dropValue_74 : decode cX23_dropValue 74 = .ok (.aload_n 1, 1) := by decide +kernel
theorem eX23_dropValue_75 : decode cX23_dropValue 75 = .ok (.getfield 386, 3) := by decide +kernel
theorem eX23_dropValue_78 : decode cX23_dropValue 78 = .ok (.iconst 4, 1) := by decide +kernel
theorem eX23_dropValue_79 : decode cX23_dropValue 79 = .ok (.if_icmp .ne 56, 3) := by decide +kernel
theorem eX23_dropValue_82 : decode cX23_dropValue 82 = .ok (.aload_n 0, 1) := by decide +kernel
theorem eX23_dropValue_83 : decode cX23_dropValue 83 = .ok (.getfield 232, 3) := by decide +kernel
theorem eX23_dropValue_86 : decode cX23_dropValue 86 = .ok (.aload_n 1, 1) := by decide +kernel
theorem eX23_dropValue_87 : decode cX23_dropValue 87 = .ok (.getfield 387, 3) := by decide +kernel
theorem eX23_dropValue_90 : decode cX23_dropValue 90 = .ok (.aaload, 1) := by decide +kernel
theorem eX23_dropValue_91 : decode cX23_dropValue 91 = .ok (.getfield 159, 3) := by decide +kernel
theorem eX23_dropValue_94 : decode cX23_dropValue 94 = .ok (.aload_n 0, 1) := by decide +kernel
theorem eX23_dropValue_95 : decode cX23_dropValue 95 = .ok (.iload 4, 2) := by decide +kernel
theorem eX23_dropValue_97 : decode cX23_dropValue 97 = .ok (.invokevirtual 1000, 3) := by decide +kernel
theorem eX23_dropValue_100 : decode cX23_dropValue 100 = .ok (.aaload, 1) := by decide +kernel
theorem eX23_dropValue_101 : decode cX23_dropValue 101 = .ok (.astore 5, 2) := by decide +kernel
theorem eX23_dropValue_103 : decode cX23_dropValue 103 = .ok (.aload_n 0, 1) := by decide +kernel
theorem eX23_dropValue_104 : decode cX23_dropValue 104 = .ok (.iconst 3, 1) := by decide +kernel
theorem eX23_dropValue_105 : decode cX23_dropValue 105 = .ok (.aconst_null, 1) := by decide +kernel
theorem eX23_dropValue_106 : decode cX23_dropValue 106 = .ok (.iload 4, 2) := by decide +kernel
theorem eX23_dropValue_108 : decode cX23_dropValue 108 = .ok (.invokevirtual 1030, 3) := by decide +kernel
theorem eX23_dropValue_111 : decode cX23_dropValue 111 = .ok (.aload_n 0, 1) := by decide +kernel
theorem eX23_dropValue_112 : decode cX23_dropValue 112 = .ok (.aload 5, 2) := by decide +kernel
theorem eX23_dropValue_114 : decode cX23_dropValue 114 = .ok (.getfield 166, 3) := by decide +kernel
theorem eX23_dropValue_117 : decode cX23_dropValue 117 = .ok (.aload 5, 2) := by decide +kernel
theorem eX23_dropValue_119 : decode cX23_dropValue 119 = .ok (.getfield 170, 3) := by decide +kernel
theorem eX23_dropValue_122 : decode cX23_dropValue 122 = .ok (.aload_n 0, 1) := by decide +kernel
theorem eX23_dropValue_123 : decode cX23_dropValue 123 = .ok (.iload 4, 2) := by decide +kernel
theorem eX23_dropValue_125 : decode cX23_dropValue 125 = .ok (.invokevirtual 1044, 3) := by decide +kernel
theorem eX23_dropValue_128 : decode cX23_dropValue 128 = .ok (.iconst 1, 1) := by decide +kernel
theorem eX23_dropValue_129 : decode cX23_dropValue 129 = .ok (.invokevirtual 1040, 3) := by decide +kernel
theorem eX23_dropValue_132 : decode cX23_dropValue 132 = .ok (.goto 49, 3) := by decide +kernel
theorem eX23_dropValue_135 : decode cX23_dropValue 135 = .ok (.aload_n 1, 1) := by decide +kernel
theorem eX23_dropValue_136 : decode cX23_dropValue 136 = .ok (.getfield 386, 3) := by decide +kernel
theorem eX23_dropValue_139 : decode cX23_dropValue 139 = .ok (.iconst 5, 1) := by decide +kernel
theorem eX23_dropValue_140 : decode cX23_dropValue 140 = .ok (.if_icmp .ne 41, 3) := by decide +kernel
theorem eX23_dropValue_143 : decode cX23_dropValue 143 = .ok (.aload_n 0, 1) := by decide +kernel
theorem eX23_dropValue_144 : decode cX23_dropValue 144 = .ok (.iconst 2, 1) := by decide +kernel
theorem eX23_dropValue_145 : decode cX23_dropValue 145 = .ok (.aconst_null, 1) := by decide +kernel
theorem eX23_dropValue_146 : decode cX23_dropValue 146 = .ok (.iload 4, 2) := by decide +kernel
theorem eX23_dropValue_148 : decode cX23_dropValue 148 = .ok (.invokevirtual 1030, 3) := by decide +kernel
theorem eX23_dropValue_151 : decode cX23_dropValue 151 = .ok (.aload_n 0, 1) := by decide +kernel
theorem eX23_dropValue_152 : decode cX23_dropValue 152 = .ok (.iconst 1, 1) := by decide +kernel
theorem eX23_dropValue_153 : decode cX23_dropValue 153 = .ok (.aload_n 1, 1) := by decide +kernel
theorem eX23_dropValue_154 : decode cX23_dropValue 154 = .ok (.getfield 390, 3) := by decide +kernel
theorem eX23_dropValue_157 : decode cX23_dropValue 157 = .ok (.aload_n 0, 1) := by decide +kernel
theorem eX23_dropValue_158 : decode cX23_dropValue 158 = .ok (.iload 4, 2) := by decide +kernel
theorem eX23_dropValue_160 : decode cX23_dropValue 160 = .ok (.invokevirtual 1044, 3) := by decide +kernel
theorem eX23_dropValue_163 : decode cX23_dropValue 163 = .ok (.invokevirtual 1030, 3) := by decide +kernel
theorem eX23_dropValue_166 : decode cX23_dropValue 166 = .ok (.aload_n 0, 1) := by decide +kernel
theorem eX23_dropValue_167 : decode cX23_dropValue 167 = .ok (.iconst 0, 1) := by decide +kernel
theorem eX23_dropValue_168 : decode cX23_dropValue 168 = .ok (.aload_n 1, 1) := by decide +kernel
theorem eX23_dropValue_169 : decode cX23_dropValue 169 = .ok (.getfield 390, 3) := by decide +kernel
theorem eX23_dropValue_172 : decode cX23_dropValue 172 = .ok (.aload_n 0, 1) := by decide +kernel
theorem eX23_dropValue_173 : decode cX23_dropValue 173 = .ok (.iload 4, 2) := by decide +kernel
theorem eX23_dropValue_175 : decode cX23_dropValue 175 = .ok (.invokevirtual 1044, 3) := by decide +kernel
theorem eX23_dropValue_178 : decode cX23_dropValue 178 = .ok (.invokevirtual 1030, 3) := by decide +kernel
theorem eX23_dropValue_181 : decode cX23_dropValue 181 = .ok (.return_, 1) := by decide +kernel
theorem eX23_dropPlace_0 : decode cX23_dropPlace 0 = .ok (.aload_n 1, 1) := by decide +kernel
theorem eX23_dropPlace_1 : decode cX23_dropPlace 1 = .ok (.getfield 386, 3) := by decide +kernel
theorem eX23_dropPlace_4 : decode cX23_dropPlace 4 = .ok (.iconst 3, 1) := by decide +kernel
theorem eX23_dropPlace_5 : decode cX23_dropPlace 5 = .ok (.if_icmp .ne 36, 3) := by decide +kernel
theorem eX23_dropPlace_8 : decode cX23_dropPlace 8 = .ok (.aload_n 0, 1) := by decide +kernel
theorem eX23_dropPlace_9 : decode cX23_dropPlace 9 = .ok (.aload_n 0, 1) := by decide +kernel
theorem eX23_dropPlace_10 : decode cX23_dropPlace 10 = .ok (.getfield 232, 3) := by decide +kernel
theorem eX23_dropPlace_13 : decode cX23_dropPlace 13 = .ok (.aload_n 1, 1) := by decide +kernel
theorem eX23_dropPlace_14 : decode cX23_dropPlace 14 = .ok (.getfield 387, 3) := by decide +kernel
theorem eX23_dropPlace_17 : decode cX23_dropPlace 17 = .ok (.aaload, 1) := by decide +kernel
theorem eX23_dropPlace_18 : decode cX23_dropPlace 18 = .ok (.getfield 175, 3) := by decide +kernel
theorem eX23_dropPlace_21 : decode cX23_dropPlace 21 = .ok (.aload_n 0, 1) := by decide +kernel
theorem eX23_dropPlace_22 : decode cX23_dropPlace 22 = .ok (.getfield 232, 3) := by decide +kernel
theorem eX23_dropPlace_25 : decode cX23_dropPlace 25 = .ok (.aload_n 1, 1) := by decide +kernel
theorem eX23_dropPlace_26 : decode cX23_dropPlace 26 = .ok (.getfield 387, 3) := by decide +kernel
theorem eX23_dropPlace_29 : decode cX23_dropPlace 29 = .ok (.aaload, 1) := by decide +kernel
theorem eX23_dropPlace_30 : decode cX23_dropPlace 30 = .ok (.getfield 139, 3) := by decide +kernel
theorem eX23_dropPlace_33 : decode cX23_dropPlace 33 = .ok (.iload_n 2, 1) := by decide +kernel
theorem eX23_dropPlace_34 : decode cX23_dropPlace 34 = .ok (.iconst 0, 1) := by decide +kernel
theorem eX23_dropPlace_35 : decode cX23_dropPlace 35 = .ok (.invokevirtual 1040, 3) := by decide +kernel
theorem eX23_dropPlace_38 : decode cX23_dropPlace 38 = .ok (.goto 30, 3) := by decide +kernel
theorem eX23_dropPlace_41 : decode cX23_dropPlace 41 = .ok (.aload_n 0, 1) := by decide +kernel
theorem eX23_dropPlace_42 : decode cX23_dropPlace 42 = .ok (.getfield 933, 3) := by decide +kernel
theorem eX23_dropPlace_45 : decode cX23_dropPlace 45 = .ok (.iload_n 2, 1) := by decide +kernel
theorem eX23_dropPlace_46 : decode cX23_dropPlace 46 = .ok (.baload, 1) := by decide +kernel
theorem eX23_dropPlace_47 : decode cX23_dropPlace 47 = .ok (.ifCond .eq 21, 3) := by decide +kernel
theorem eX23_dropPlace_50 : decode cX23_dropPlace 50 = .ok (.aload_n 0, 1) := by decide +kernel
theorem eX23_dropPlace_51 : decode cX23_dropPlace 51 = .ok (.getfield 933, 3) := by decide +kernel
theorem eX23_dropPlace_54 : decode cX23_dropPlace 54 = .ok (.iload_n 2, 1) := by decide +kernel
theorem eX23_dropPlace_55 : decode cX23_dropPlace 55 = .ok (.iconst 0, 1) := by decide +kernel
theorem eX23_dropPlace_56 : decode cX23_dropPlace 56 = .ok (.bastore, 1) := by decide +kernel
theorem eX23_dropPlace_57 : decode cX23_dropPlace 57 = .ok (.aload_n 0, 1) := by decide +kernel
theorem eX23_dropPlace_58 : decode cX23_dropPlace 58 = .ok (.aload_n 1, 1) := by decide +kernel
theorem eX23_dropPlace_59 : decode cX23_dropPlace 59 = .ok (.aload_n 0, 1) := by decide +kernel
theorem eX23_dropPlace_60 : decode cX23_dropPlace 60 = .ok (.getfield 930, 3) := by decide +kernel
theorem eX23_dropPlace_63 : decode cX23_dropPlace 63 = .ok (.iload_n 2, 1) := by decide +kernel
theorem eX23_dropPlace_64 : decode cX23_dropPlace 64 = .ok (.laload, 1) := by decide +kernel
theorem eX23_dropPlace_65 : decode cX23_dropPlace 65 = .ok (.invokevirtual 1047, 3) := by decide +kernel
theorem eX23_dropPlace_68 : decode cX23_dropPlace 68 = .ok (.return_, 1) := by decide +kernel
theorem eX23_doAll_0 : decode cX23_doAll 0 = .ok (.aload_n 0, 1) := by decide +kernel
theorem eX23_doAll_1 : decode cX23_doAll 1 = .ok (.getfield 1023, 3) := by decide +kernel
theorem eX23_doAll_4 : decode cX23_doAll 4 = .ok (.ifCond .le 111, 3) := by decide +kernel
theorem eX23_doAll_7 : decode cX23_doAll 7 = .ok (.aload_n 0, 1) := by decide +kernel
theorem eX23_doAll_8 : decode cX23_doAll 8 = .ok (.dup, 1) := by decide +kernel
theorem eX23_doAll_9 : decode cX23_doAll 9 = .ok (.getfield 1023, 3) := by decide +kernel
theorem eX23_doAll_12 : decode cX23_doAll 12 = .ok (.iconst 1, 1) := by decide +kernel
theorem eX23_doAll_13 : decode cX23_doAll 13 = .ok (.isub, 1) := by decide +kernel
theorem eX23_doAll_14 : decode cX23_doAll 14 = .ok (.putfield 1023, 3) := by decide +kernel
theorem eX23_doAll_17 : decode cX23_doAll 17 = .ok (.aload_n 0, 1) := by decide +kernel
theorem eX23_doAll_18 : decode cX23_doAll 18 = .ok (.getfield 385, 3) := by decide +kernel
theorem eX23_doAll_21 : decode cX23_doAll 21 = .ok (.aload_n 0, 1) := by decide +kernel
theorem eX23_doAll_22 : decode cX23_doAll 22 = .ok (.getfield 954, 3) := by decide +kernel
theorem eX23_doAll_25 : decode cX23_doAll 25 = .ok (.aload_n 0, 1) := by decide +kernel
theorem eX23_doAll_26 : decode cX23_doAll 26 = .ok (.getfield 1023, 3) := by decide +kernel
theorem eX23_doAll_29 : decode cX23_doAll 29 = .ok (.iaload, 1) := by decide +kernel
theorem eX23_doAll_30 : decode cX23_doAll 30 = .ok (.aaload, 1) := by decide +kernel
theorem eX23_doAll_31 : decode cX23_doAll 31 = .ok (.astore_n 1, 1) := by decide +kernel
theorem eX23_doAll_32 : decode cX23_doAll 32 = .ok (.aload_n 0, 1) := by decide +kernel
theorem eX23_doAll_33 : decode cX23_doAll 33 = .ok (.getfield 957, 3) := by decide +kernel
theorem eX23_doAll_36 : decode cX23_doAll 36 = .ok (.aload_n 0, 1) := by decide +kernel
theorem eX23_doAll_37 : decode cX23_doAll 37 = .ok (.getfield 1023, 3) := by decide +kernel
theorem eX23_doAll_40 : decode cX23_doAll 40 = .ok (.iaload, 1) := by decide +kernel
theorem eX23_doAll_41 : decode cX23_doAll 41 = .ok (.istore_n 2, 1) := by decide +kernel
theorem eX23_doAll_42 : decode cX23_doAll 42 = .ok (.aload_n 0, 1) := by decide +kernel
theorem eX23_doAll_43 : decode cX23_doAll 43 = .ok (.getfield 951, 3) := by decide +kernel
theorem eX23_doAll_46 : decode cX23_doAll 46 = .ok (.aload_n 0, 1) := by decide +kernel
theorem eX23_doAll_47 : decode cX23_doAll 47 = .ok (.getfield 1023, 3) := by decide +kernel
theorem eX23_doAll_50 : decode cX23_doAll 50 = .ok (.iaload, 1) := by decide +kernel
theorem eX23_doAll_51 : decode cX23_doAll 51 = .ok (.tableswitch 56 0 2 #[25, 34, 43], 25) := by decide +kernel
theorem eX23_doAll_76 : decode cX23_doAll 76 = .ok (.aload_n 0, 1) := by decide +kernel
theorem eX23_doAll_77 : decode cX23_doAll 77 = .ok (.aload_n 1, 1) := by decide +kernel
theorem eX23_doAll_78 : decode cX23_doAll 78 = .ok (.iload_n 2, 1) := by decide +kernel
theorem eX23_doAll_79 : decode cX23_doAll 79 = .ok (.invokevirtual 1051, 3) := by decide +kernel
theorem eX23_doAll_82 : decode cX23_doAll 82 = .ok (.goto 30, 3) := by decide +kernel
theorem eX23_doAll_85 : decode cX23_doAll 85 = .ok (.aload_n 0, 1) := by decide +kernel
theorem eX23_doAll_86 : decode cX23_doAll 86 = .ok (.aload_n 1, 1) := by decide +kernel
theorem eX23_doAll_87 : decode cX23_doAll 87 = .ok (.iload_n 2, 1) := by decide +kernel
theorem eX23_doAll_88 : decode cX23_doAll 88 = .ok (.invokevirtual 1055, 3) := by decide +kernel
theorem eX23_doAll_91 : decode cX23_doAll 91 = .ok (.goto 21, 3) := by decide +kernel
theorem eX23_doAll_94 : decode cX23_doAll 94 = .ok (.aload_n 0, 1) := by decide +kernel
theorem eX23_doAll_95 : decode cX23_doAll 95 = .ok (.iload_n 2, 1) := by decide +kernel
theorem eX23_doAll_96 : decode cX23_doAll 96 = .ok (.invokevirtual 1058, 3) := by decide +kernel
theorem eX23_doAll_99 : decode cX23_doAll 99 = .ok (.aload_n 0, 1) := by decide +kernel
theorem eX23_doAll_100 : decode cX23_doAll 100 = .ok (.iload_n 2, 1) := by decide +kernel
theorem eX23_doAll_101 : decode cX23_doAll 101 = .ok (.invokevirtual 986, 3) := by decide +kernel
theorem eX23_doAll_104 : decode cX23_doAll 104 = .ok (.goto 8, 3) := by decide +kernel
theorem eX23_doAll_107 : decode cX23_doAll 107 = .ok (.aload_n 0, 1) := by decide +kernel
theorem eX23_doAll_108 : decode cX23_doAll 108 = .ok (.iload_n 2, 1) := by decide +kernel
theorem eX23_doAll_109 : decode cX23_doAll 109 = .ok (.invokevirtual 986, 3) := by decide +kernel
theorem eX23_doAll_112 : decode cX23_doAll 112 = .ok (.goto (-112), 3) := by decide +kernel
theorem eX23_doAll_115 : decode cX23_doAll 115 = .ok (.return_, 1) := by decide +kernel
theorem eX23_writeWord_0 : decode cX23_writeWord 0 = .ok (.bipush 56, 2) := by decide +kernel
theorem eX23_writeWord_2 : decode cX23_writeWord 2 = .ok (.istore_n 3, 1) := by decide +kernel
theorem eX23_writeWord_3 : decode cX23_writeWord 3 = .ok (.iload_n 3, 1) := by decide +kernel
theorem eX23_writeWord_4 : decode cX23_writeWord 4 = .ok (.ifCond .lt 33, 3) := by decide +kernel
theorem eX23_writeWord_7 : decode cX23_writeWord 7 = .ok (.lload_n 1, 1) := by decide +kernel
theorem eX23_writeWord_8 : decode cX23_writeWord 8 = .ok (.iload_n 3, 1) := by decide +kernel
theorem eX23_writeWord_9 : decode cX23_writeWord 9 = .ok (.lushr, 1) := by decide +kernel
theorem eX23_writeWord_10 : decode cX23_writeWord 10 = .ok (.ldc2_w 23, 3) := by decide +kernel
theorem eX23_writeWord_13 : decode cX23_writeWord 13 = .ok (.land, 1) := by decide +kernel
theorem eX23_writeWord_14 : decode cX23_writeWord 14 = .ok (.lconst 0, 1) := by decide +kernel
theorem eX23_writeWord_15 : decode cX23_writeWord 15 = .ok (.lcmp, 1) := by decide +kernel
theorem eX23_writeWord_16 : decode cX23_writeWord 16 = .ok (.ifCond .eq 15, 3) := by decide +kernel
theorem eX23_writeWord_19 : decode cX23_writeWord 19 = .ok (.aload_n 0, 1) := by decide +kernel
theorem eX23_writeWord_20 : decode cX23_writeWord 20 = .ok (.lload_n 1, 1) := by decide +kernel
theorem eX23_writeWord_21 : decode cX23_writeWord 21 = .ok (.iload_n 3, 1) := by decide +kernel
theorem eX23_writeWord_22 : decode cX23_writeWord 22 = .ok (.lushr, 1) := by decide +kernel
theorem eX23_writeWord_23 : decode cX23_writeWord 23 = .ok (.ldc2_w 23, 3) := by decide +kernel
theorem eX23_writeWord_26 : decode cX23_writeWord 26 = .ok (.land, 1) := by decide +kernel
theorem eX23_writeWord_27 : decode cX23_writeWord 27 = .ok (.l2i, 1) := by decide +kernel
theorem eX23_writeWord_28 : decode cX23_writeWord 28 = .ok (.invokevirtual 1034, 3) := by decide +kernel
theorem eX23_writeWord_31 : decode cX23_writeWord 31 = .ok (.iinc 3 (-8), 3) := by decide +kernel
theorem eX23_writeWord_34 : decode cX23_writeWord 34 = .ok (.goto (-31), 3) := by decide +kernel
theorem eX23_writeWord_37 : decode cX23_writeWord 37 = .ok (.return_, 1) := by decide +kernel
theorem eX23_slot_0 : decode cX23_slot 0 = .ok (.bipush 40, 2) := by decide +kernel
theorem eX23_slot_2 : decode cX23_slot 2 = .ok (.aload_n 0, 1) := by decide +kernel
theorem eX23_slot_3 : decode cX23_slot 3 = .ok (.getfield 1076, 3) := by decide +kernel
theorem eX23_slot_6 : decode cX23_slot 6 = .ok (.iconst 1, 1) := by decide +kernel
theorem eX23_slot_7 : decode cX23_slot 7 = .ok (.isub, 1) := by decide +kernel
theorem eX23_slot_8 : decode cX23_slot 8 = .ok (.imul, 1) := by decide +kernel
theorem eX23_slot_9 : decode cX23_slot 9 = .ok (.aload_n 1, 1) := by decide +kernel
theorem eX23_slot_10 : decode cX23_slot 10 = .ok (.getfield 469, 3) := by decide +kernel
theorem eX23_slot_13 : decode cX23_slot 13 = .ok (.iadd, 1) := by decide +kernel
theorem eX23_slot_14 : decode cX23_slot 14 = .ok (.ireturn, 1) := by decide +kernel
theorem eX23_find_0 : decode cX23_find 0 = .ok (.aload_n 0, 1) := by decide +kernel
theorem eX23_find_1 : decode cX23_find 1 = .ok (.getfield 945, 3) := by decide +kernel
theorem eX23_find_4 : decode cX23_find 4 = .ok (.aload_n 0, 1) := by decide +kernel
theorem eX23_find_5 : decode cX23_find 5 = .ok (.aload_n 1, 1) := by decide +kernel
theorem eX23_find_6 : decode cX23_find 6 = .ok (.getfield 682, 3) := by decide +kernel
theorem eX23_find_9 : decode cX23_find 9 = .ok (.invokevirtual 1079, 3) := by decide +kernel
theorem eX23_find_12 : decode cX23_find 12 = .ok (.iaload, 1) := by decide +kernel
theorem eX23_find_13 : decode cX23_find 13 = .ok (.istore_n 3, 1) := by decide +kernel
theorem eX23_find_14 : decode cX23_find 14 = .ok (.iconst 0, 1) := by decide +kernel
theorem eX23_find_15 : decode cX23_find 15 = .ok (.istore 4, 2) := by decide +kernel
theorem eX23_find_17 : decode cX23_find 17 = .ok (.iload 4, 2) := by decide +kernel
theorem eX23_find_19 : decode cX23_find 19 = .ok (.iload_n 2, 1) := by decide +kernel
theorem eX23_find_20 : decode cX23_find 20 = .ok (.if_icmp .ge 148, 3) := by decide +kernel
theorem eX23_find_23 : decode cX23_find 23 = .ok (.aload_n 1, 1) := by decide +kernel
theorem eX23_find_24 : decode cX23_find 24 = .ok (.getfield 688, 3) := by decide +kernel
theorem eX23_find_27 : decode cX23_find 27 = .ok (.iload 4, 2) := by decide +kernel
theorem eX23_find_29 : decode cX23_find 29 = .ok (.iaload, 1) := by decide +kernel
theorem eX23_find_30 : decode cX23_find 30 = .ok (.istore 5, 2) := by decide +kernel
theorem eX23_find_32 : decode cX23_find 32 = .ok (.aload_n 1, 1) := by decide +kernel
theorem eX23_find_33 : decode cX23_find 33 = .ok (.getfield 683, 3) := by decide +kernel
theorem eX23_find_36 : decode cX23_find 36 = .ok (.iload 4, 2) := by decide +kernel
theorem eX23_find_38 : decode cX23_find 38 = .ok (.aaload, 1) := by decide +kernel
theorem eX23_find_39 : decode cX23_find 39 = .ok (.astore 6, 2) := by decide +kernel
theorem eX23_find_41 : decode cX23_find 41 = .ok (.iload 5, 2) := by decide +kernel
theorem eX23_find_43 : decode cX23_find 43 = .ok (.sipush 1000, 3) := by decide +kernel
theorem eX23_find_46 : decode cX23_find 46 = .ok (.if_icmp .lt 56, 3) := by decide +kernel
theorem eX23_find_49 : decode cX23_find 49 = .ok (.aload_n 0, 1) := by decide +kernel
theorem eX23_find_50 : decode cX23_find 50 = .ok (.aload_n 0, 1) := by decide +kernel
theorem eX23_find_51 : decode cX23_find 51 = .ok (.getfield 232, 3) := by decide +kernel
theorem eX23_find_54 : decode cX23_find 54 = .ok (.aload 6, 2) := by decide +kernel
theorem eX23_find_56 : decode cX23_find 56 = .ok (.getfield 387, 3) := by decide +kernel
theorem eX23_find_59 : decode cX23_find 59 = .ok (.aaload, 1) := by decide +kernel
theorem eX23_find_60 : decode cX23_find 60 = .ok (.getfield 159, 3) := by decide +kernel
theorem eX23_find_63 : decode cX23_find 63 = .ok (.iload 5, 2) := by decide +kernel
theorem eX23_find_65 : decode cX23_find 65 = .ok (.sipush 1000, 3) := by decide +kernel
theorem eX23_find_68 : decode cX23_find 68 = .ok (.isub, 1) := by decide +kernel
theorem eX23_find_69 : decode cX23_find 69 = .ok (.iconst 4, 1) := by decide +kernel
theorem eX23_find_70 : decode cX23_find 70 = .ok (.ishr, 1) := by decide +kernel
theorem eX23_find_71 : decode cX23_find 71 = .ok (.aaload, 1) := by decide +kernel
theorem eX23_find_72 : decode cX23_find 72 = .ok (.getfield 166, 3) := by decide +kernel
theorem eX23_find_75 : decode cX23_find 75 = .ok (.aload_n 0, 1) := by decide +kernel
theorem eX23_find_76 : decode cX23_find 76 = .ok (.aload_n 0, 1) := by decide +kernel
theorem eX23_find_77 : decode cX23_find 77 = .ok (.getfield 930, 3) := by decide +kernel
theorem eX23_find_80 : decode cX23_find 80 = .ok (.iload_n 3, 1) := by decide +kernel
theorem eX23_find_81 : decode cX23_find 81 = .ok (.laload, 1) := by decide +kernel
theorem eX23_find_82 : decode cX23_find 82 = .ok (.l2i, 1) := by decide +kernel
theorem eX23_find_83 : decode cX23_find 83 = .ok (.invokevirtual 1044, 3) := by decide +kernel
theorem eX23_find_86 : decode cX23_find 86 = .ok (.iload 5, 2) := by decide +kernel
theorem eX23_find_88 : decode cX23_find 88 = .ok (.sipush 1000, 3) := by decide +kernel
theorem eX23_find_91 : decode cX23_find 91 = .ok (.isub, 1) := by decide +kernel
theorem eX23_find_92 : decode cX23_find 92 = .ok (.bipush 15, 2) := by decide +kernel
theorem eX23_find_94 : decode cX23_find 94 = .ok (.iand, 1) := by decide +kernel
theorem eX23_find_95 : decode cX23_find 95 = .ok (.invokevirtual 1026, 3) := by decide +kernel
theorem eX23_find_98 : decode cX23_find 98 = .ok (.istore_n 3, 1) := by decide +kernel
theorem eX23_find_99 : decode cX23_find 99 = .ok (.goto 63, 3) := by decide +kernel
theorem eX23_find_102 : decode cX23_find 102 = .ok (.iload 5, 2) := by decide +kernel
theorem eX23_find_104 : decode cX23_find 104 = .ok (.ifCond .lt 27, 3) := by decide +kernel
theorem eX23_find_107 : decode cX23_find 107 = .ok (.aload_n 0, 1) := by decide +kernel
theorem eX23_find_108 : decode cX23_find 108 = .ok (.aload_n 0, 1) := by decide +kernel
theorem eX23_find_109 : decode cX23_find 109 = .ok (.getfield 232, 3) := by decide +kernel
theorem eX23_find_112 : decode cX23_find 112 = .ok (.aload 6, 2) := by decide +kernel
theorem eX23_find_114 : decode cX23_find 114 = .ok (.getfield 387, 3) := by decide +kernel
theorem eX23_find_117 : decode cX23_find 117 = .ok (.aaload, 1) := by decide +kernel
theorem eX23_find_118 : decode cX23_find 118 = .ok (.getfield 175, 3) := by decide +kernel
theorem eX23_find_121 : decode cX23_find 121 = .ok (.iload_n 3, 1) := by decide +kernel
theorem eX23_find_122 : decode cX23_find 122 = .ok (.iload 5, 2) := by decide +kernel
theorem eX23_find_124 : decode cX23_find 124 = .ok (.invokevirtual 1026, 3) := by decide +kernel
theorem eX23_find_127 : decode cX23_find 127 = .ok (.istore_n 3, 1) := by decide +kernel
theorem eX23_find_128 : decode cX23_find 128 = .ok (.goto 34, 3) := by decide +kernel
theorem eX23_find_131 : decode cX23_find 131 = .ok (.aload 6, 2) := by decide +kernel
theorem eX23_find_133 : decode cX23_find 133 = .ok (.getfield 386, 3) := by decide +kernel
theorem eX23_find_136 : decode cX23_find 136 = .ok (.iconst 5, 1) := by decide +kernel
theorem eX23_find_137 : decode cX23_find 137 = .ok (.if_icmp .ne 17, 3) := by decide +kernel
theorem eX23_find_140 : decode cX23_find 140 = .ok (.aload_n 0, 1) := by decide +kernel
theorem eX23_find_141 : decode cX23_find 141 = .ok (.aload_n 0, 1) := by decide +kernel
theorem eX23_find_142 : decode cX23_find 142 = .ok (.getfield 930, 3) := by decide +kernel
theorem eX23_find_145 : decode cX23_find 145 = .ok (.iload_n 3, 1) := by decide +kernel
theorem eX23_find_146 : decode cX23_find 146 = .ok (.laload, 1) := by decide +kernel
theorem eX23_find_147 : decode cX23_find 147 = .ok (.l2i, 1) := by decide +kernel
theorem eX23_find_148 : decode cX23_find 148 = .ok (.invokevirtual 1044, 3) := by decide +kernel
theorem eX23_find_151 : decode cX23_find 151 = .ok (.goto 10, 3) := by decide +kernel
theorem eX23_find_154 : decode cX23_find 154 = .ok (.aload_n 0, 1) := by decide +kernel
theorem eX23_find_155 : decode cX23_find 155 = .ok (.getfield 930, 3) := by decide +kernel
theorem eX23_find_158 : decode cX23_find 158 = .ok (.iload_n 3, 1) := by decide +kernel
theorem eX23_find_159 : decode cX23_find 159 = .ok (.laload, 1) := by decide +kernel
theorem eX23_find_160 : decode cX23_find 160 = .ok (.l2i, 1) := by decide +kernel
theorem eX23_find_161 : decode cX23_find 161 = .ok (.istore_n 3, 1) := by decide +kernel
theorem eX23_find_162 : decode cX23_find 162 = .ok (.iinc 4 1, 3) := by decide +kernel
theorem eX23_find_165 : decode cX23_find 165 = .ok (.goto (-148), 3) := by decide +kernel
theorem eX23_find_168 : decode cX23_find 168 = .ok (.iload_n 3, 1) := by decide +kernel
theorem eX23_find_169 : decode cX23_find 169 = .ok (.ireturn, 1) := by decide +kernel
theorem eX23_runRead_0 : decode cX23_runRead 0 = .ok (.aload_n 0, 1) := by decide +kernel
theorem eX23_runRead_1 : decode cX23_runRead 1 = .ok (.getfield 656, 3) := by decide +kernel
theorem eX23_runRead_4 : decode cX23_runRead 4 = .ok (.iload_n 1, 1) := by decide +kernel
theorem eX23_runRead_5 : decode cX23_runRead 5 = .ok (.aaload, 1) := by decide +kernel
theorem eX23_runRead_6 : decode cX23_runRead 6 = .ok (.astore_n 2, 1) := by decide +kernel
theorem eX23_runRead_7 : decode cX23_runRead 7 = .ok (.aload_n 0, 1) := by decide +kernel
theorem eX23_runRead_8 : decode cX23_runRead 8 = .ok (.getfield 640, 3) := by decide +kernel
theorem eX23_runRead_11 : decode cX23_runRead 11 = .ok (.iload_n 1, 1) := by decide +kernel
theorem eX23_runRead_12 : decode cX23_runRead 12 = .ok (.iaload, 1) := by decide +kernel
theorem eX23_runRead_13 : decode cX23_runRead 13 = .ok (.iconst 1, 1) := by decide +kernel
theorem eX23_runRead_14 : decode cX23_runRead 14 = .ok (.if_icmp .ne 24, 3) := by decide +kernel
theorem eX23_runRead_17 : decode cX23_runRead 17 = .ok (.aload_n 0, 1) := by decide +kernel
theorem eX23_runRead_18 : decode cX23_runRead 18 = .ok (.aload_n 0, 1) := by decide +kernel
theorem eX23_runRead_19 : decode cX23_runRead 19 = .ok (.getfield 930, 3) := by decide +kernel
theorem eX23_runRead_22 : decode cX23_runRead 22 = .ok (.aload_n 0, 1) := by decide +kernel
theorem eX23_runRead_23 : decode cX23_runRead 23 = .ok (.aload_n 2, 1) := by decide +kernel
theorem eX23_runRead_24 : decode cX23_runRead 24 = .ok (.aload_n 2, 1) := by decide +kernel
theorem eX23_runRead_25 : decode cX23_runRead 25 = .ok (.getfield 711, 3) := by decide +kernel
theorem eX23_runRead_28 : decode cX23_runRead 28 = .ok (.invokevirtual 1083, 3) := by decide +kernel
theorem eX23_runRead_31 : decode cX23_runRead 31 = .ok (.laload, 1) := by decide +kernel
theorem eX23_runRead_32 : decode cX23_runRead 32 = .ok (.invokevirtual 1019, 3) := by decide +kernel
theorem eX23_runRead_35 : decode cX23_runRead 35 = .ok (.goto 130, 3) := by decide +kernel
theorem eX23_runRead_38 : decode cX23_runRead 38 = .ok (.aload_n 0, 1) := by decide +kernel
theorem eX23_runRead_39 : decode cX23_runRead 39 = .ok (.getfield 640, 3) := by decide +kernel
theorem eX23_runRead_42 : decode cX23_runRead 42 = .ok (.iload_n 1, 1) := by decide +kernel
theorem eX23_runRead_43 : decode cX23_runRead 43 = .ok (.iaload, 1) := by decide +kernel
theorem eX23_runRead_44 : decode cX23_runRead 44 = .ok (.iconst 4, 1) := by decide +kernel
theorem eX23_runRead_45 : decode cX23_runRead 45 = .ok (.if_icmp .ne 27, 3) := by decide +kernel
theorem eX23_runRead_48 : decode cX23_runRead 48 = .ok (.aload_n 0, 1) := by decide +kernel
theorem eX23_runRead_49 : decode cX23_runRead 49 = .ok (.aload_n 0, 1) := by decide +kernel
theorem eX23_runRead_50 : decode cX23_runRead 50 = .ok (.aload_n 2, 1) := by decide +kernel
theorem eX23_runRead_51 : decode cX23_runRead 51 = .ok (.invokevirtual 691, 3) := by decide +kernel
theorem eX23_runRead_54 : decode cX23_runRead 54 = .ok (.aload_n 0, 1) := by decide +kernel
theorem eX23_runRead_55 : decode cX23_runRead 55 = .ok (.aload_n 2, 1) := by decide +kernel
theorem eX23_runRead_56 : decode cX23_runRead 56 = .ok (.aload_n 2, 1) := by decide +kernel
theorem eX23_runRead_57 : decode cX23_runRead 57 = .ok (.getfield 711, 3) := by decide +kernel
theorem eX23_runRead_60 : decode cX23_runRead 60 = .ok (.invokevirtual 1083, 3) := by decide +kernel
theorem eX23_runRead_63 : decode cX23_runRead 63 = .ok (.invokevirtual 1087, 3) := by decide +kernel
theorem eX23_runRead_66 : decode cX23_runRead 66 = .ok (.invokevirtual 1019, 3) := by decide +kernel
theorem eX23_runRead_69 : decode cX23_runRead 69 = .ok (.goto 96, 3) := by decide +kernel
theorem eX23_runRead_72 : decode cX23_runRead 72 = .ok (.aload_n 0, 1) := by decide +kernel
theorem eX23_runRead_73 : decode cX23_runRead 73 = .ok (.aload_n 2, 1) := by decide +kernel
theorem eX23_runRead_74 : decode cX23_runRead 74 = .ok (.aload_n 2, 1) := by decide +kernel
theorem eX23_runRead_75 : decode cX23_runRead 75 = .ok (.getfield 711, 3) := by decide +kernel
theorem eX23_runRead_78 : decode cX23_runRead 78 = .ok (.iconst 1, 1) := by decide +kernel
theorem eX23_runRead_79 : decode cX23_runRead 79 = .ok (.isub, 1) := by decide +kernel
theorem eX23_runRead_80 : decode cX23_runRead 80 = .ok (.invokevirtual 1083, 3) := by decide +kernel
theorem eX23_runRead_83 : decode cX23_runRead 83 = .ok (.istore_n 3, 1) := by decide +kernel
theorem eX23_runRead_84 : decode cX23_runRead 84 = .ok (.aload_n 0, 1) := by decide +kernel
theorem eX23_runRead_85 : decode cX23_runRead 85 = .ok (.getfield 930, 3) := by decide +kernel
theorem eX23_runRead_88 : decode cX23_runRead 88 = .ok (.iload_n 3, 1) := by decide +kernel
theorem eX23_runRead_89 : decode cX23_runRead 89 = .ok (.laload, 1) := by decide +kernel
theorem eX23_runRead_90 : decode cX23_runRead 90 = .ok (.l2i, 1) := by decide +kernel
theorem eX23_runRead_91 : decode cX23_runRead 91 = .ok (.istore 4, 2) := by decide +kernel
theorem eX23_runRead_93 : decode cX23_runRead 93 = .ok (.aload_n 0, 1) := by decide +kernel
theorem eX23_runRead_94 : decode cX23_runRead 94 = .ok (.getfield 933, 3) := by decide +kernel
theorem eX23_runRead_97 : decode cX23_runRead 97 = .ok (.iload_n 3, 1) := by decide +kernel
theorem eX23_runRead_98 : decode cX23_runRead 98 = .ok (.iconst 0, 1) := by decide +kernel
theorem eX23_runRead_99 : decode cX23_runRead 99 = .ok (.bastore, 1) := by decide +kernel
theorem eX23_runRead_100 : decode cX23_runRead 100 = .ok (.aload_n 0, 1) := by decide +kernel
theorem eX23_runRead_101 : decode cX23_runRead 101 = .ok (.iload 4, 2) := by decide +kernel
theorem eX23_runRead_103 : decode cX23_runRead 103 = .ok (.invokevirtual 1044, 3) := by decide +kernel
theorem eX23_runRead_106 : decode cX23_runRead 106 = .ok (.istore 5, 2) := by decide +kernel
theorem eX23_runRead_108 : decode cX23_runRead 108 = .ok (.aload_n 0, 1) := by decide +kernel
theorem eX23_runRead_109 : decode cX23_runRead 109 = .ok (.aload_n 2, 1) := by decide +kernel
theorem eX23_runRead_110 : decode cX23_runRead 110 = .ok (.invokevirtual 691, 3) := by decide +kernel
theorem eX23_runRead_113 : decode cX23_runRead 113 = .ok (.getfield 386, 3) := by decide +kernel
theorem eX23_runRead_116 : decode cX23_runRead 116 = .ok (.iconst 3, 1) := by decide +kernel
theorem eX23_runRead_117 : decode cX23_runRead 117 = .ok (.if_icmp .ne 9, 3) := by decide +kernel
theorem eX23_runRead_120 : decode cX23_runRead 120 = .ok (.iload 5, 2) := by decide +kernel
theorem eX23_runRead_122 : decode cX23_runRead 122 = .ok (.i2l, 1) := by decide +kernel
theorem eX23_runRead_123 : decode cX23_runRead 123 = .ok (.goto 10, 3) := by decide +kernel
theorem eX23_runRead_126 : decode cX23_runRead 126 = .ok (.aload_n 0, 1) := by decide +kernel
theorem eX23_runRead_127 : decode cX23_runRead 127 = .ok (.getfield 930, 3) := by decide +kernel
theorem eX23_runRead_130 : decode cX23_runRead 130 = .ok (.iload 5, 2) := by decide +kernel
theorem eX23_runRead_132 : decode cX23_runRead 132 = .ok (.laload, 1) := by decide +kernel
theorem eX23_runRead_133 : decode cX23_runRead 133 = .ok (.invokevirtual 1019, 3) := by decide +kernel
theorem eX23_runRead_136 : decode cX23_runRead 136 = .ok (.aload_n 2, 1) := by decide +kernel
theorem eX23_runRead_137 : decode cX23_runRead 137 = .ok (.invokevirtual 691, 3) := by decide +kernel
theorem eX23_runRead_140 : decode cX23_runRead 140 = .ok (.getfield 386, 3) := by decide +kernel
theorem eX23_runRead_143 : decode cX23_runRead 143 = .ok (.iconst 3, 1) := by decide +kernel
theorem eX23_runRead_144 : decode cX23_runRead 144 = .ok (.if_icmp .eq 9, 3) := by decide +kernel
theorem eX23_runRead_147 : decode cX23_runRead 147 = .ok (.aload_n 0, 1) := by decide +kernel
theorem eX23_runRead_148 : decode cX23_runRead 148 = .ok (.iload 5, 2) := by decide +kernel
theorem eX23_runRead_150 : decode cX23_runRead 150 = .ok (.invokevirtual 986, 3) := by decide +kernel
theorem eX23_runRead_153 : decode cX23_runRead 153 = .ok (.aload_n 0, 1) := by decide +kernel
theorem eX23_runRead_154 : decode cX23_runRead 154 = .ok (.iload 4, 2) := by decide +kernel
theorem eX23_runRead_156 : decode cX23_runRead 156 = .ok (.invokevirtual 1058, 3) := by decide +kernel
theorem eX23_runRead_159 : decode cX23_runRead 159 = .ok (.aload_n 0, 1) := by decide +kernel
theorem eX23_runRead_160 : decode cX23_runRead 160 = .ok (.iload 4, 2) := by decide +kernel
theorem eX23_runRead_162 : decode cX23_runRead 162 = .ok (.invokevirtual 986, 3) := by decide +kernel
theorem eX23_runRead_165 : decode cX23_runRead 165 = .ok (.return_, 1) := by decide +kernel
theorem eX23_runSign_0 : decode cX23_runSign 0 = .ok (.aload_n 0, 1) := by decide +kernel
theorem eX23_runSign_1 : decode cX23_runSign 1 = .ok (.invokevirtual 1011, 3) := by decide +kernel
theorem eX23_runSign_4 : decode cX23_runSign 4 = .ok (.lstore_n 2, 1) := by decide +kernel
theorem eX23_runSign_5 : decode cX23_runSign 5 = .ok (.aload_n 0, 1) := by decide +kernel
theorem eX23_runSign_6 : decode cX23_runSign 6 = .ok (.invokevirtual 1011, 3) := by decide +kernel
theorem eX23_runSign_9 : decode cX23_runSign 9 = .ok (.lstore 4, 2) := by decide +kernel
theorem eX23_runSign_11 : decode cX23_runSign 11 = .ok (.lconst 0, 1) := by decide +kernel
theorem eX23_runSign_12 : decode cX23_runSign 12 = .ok (.lstore 6, 2) := by decide +kernel
theorem eX23_runSign_14 : decode cX23_runSign 14 = .ok (.iconst 0, 1) := by decide +kernel
theorem eX23_runSign_15 : decode cX23_runSign 15 = .ok (.istore 8, 2) := by decide +kernel
theorem eX23_runSign_17 : decode cX23_runSign 17 = .ok (.iload_n 1, 1) := by decide +kernel
theorem eX23_runSign_18 : decode cX23_runSign 18 = .ok (.tableswitch 308 40 49 #[54, 85, 116, 166, 166, 223, 240, 257, 274, 291], 54) := by decide +kernel
theorem eX23_runSign_72 : decode cX23_runSign 72 = .ok (.lload 4, 2) := by decide +kernel
theorem eX23_runSign_74 : decode cX23_runSign 74 = .ok (.lload_n 2, 1) := by decide +kernel
theorem eX23_runSign_75 : decode cX23_runSign 75 = .ok (.ladd, 1) := by decide +kernel
theorem eX23_runSign_76 : decode cX23_runSign 76 = .ok (.lstore 6, 2) := by decide +kernel
theorem eX23_runSign_78 : decode cX23_runSign 78 = .ok (.lload 4, 2) := by decide +kernel
theorem eX23_runSign_80 : decode cX23_runSign 80 = .ok (.lload 6, 2) := by decide +kernel
theorem eX23_runSign_82 : decode cX23_runSign 82 = .ok (.lxor, 1) := by decide +kernel
theorem eX23_runSign_83 : decode cX23_runSign 83 = .ok (.lload_n 2, 1) := by decide +kernel
theorem eX23_runSign_84 : decode cX23_runSign 84 = .ok (.lload 6, 2) := by decide +kernel
theorem eX23_runSign_86 : decode cX23_runSign 86 = .ok (.lxor, 1) := by decide +kernel
theorem eX23_runSign_87 : decode cX23_runSign 87 = .ok (.land, 1) := by decide +kernel
theorem eX23_runSign_88 : decode cX23_runSign 88 = .ok (.lconst 0, 1) := by decide +kernel
theorem eX23_runSign_89 : decode cX23_runSign 89 = .ok (.lcmp, 1) := by decide +kernel
theorem eX23_runSign_90 : decode cX23_runSign 90 = .ok (.ifCond .ge 7, 3) := by decide +kernel
theorem eX23_runSign_93 : decode cX23_runSign 93 = .ok (.iconst 1, 1) := by decide +kernel
theorem eX23_runSign_94 : decode cX23_runSign 94 = .ok (.goto 4, 3) := by decide +kernel
theorem eX23_runSign_97 : decode cX23_runSign 97 = .ok (.iconst 0, 1) := by decide +kernel
theorem eX23_runSign_98 : decode cX23_runSign 98 = .ok (.istore 8, 2) := by decide +kernel
theorem eX23_runSign_100 : decode cX23_runSign 100 = .ok (.goto 240, 3) := by decide +kernel
theorem eX23_runSign_103 : decode cX23_runSign 103 = .ok (.lload 4, 2) := by decide +kernel
theorem eX23_runSign_105 : decode cX23_runSign 105 = .ok (.lload_n 2, 1) := by decide +kernel
theorem eX23_runSign_106 : decode cX23_runSign 106 = .ok (.lsub, 1) := by decide +kernel
theorem eX23_runSign_107 : decode cX23_runSign 107 = .ok (.lstore 6, 2) := by decide +kernel
theorem eX23_runSign_109 : decode cX23_runSign 109 = .ok (.lload 4, 2) := by decide +kernel
theorem eX23_runSign_111 : decode cX23_runSign 111 = .ok (.lload_n 2, 1) := by decide +kernel
theorem eX23_runSign_112 : decode cX23_runSign 112 = .ok (.lxor, 1) := by decide +kernel
theorem eX23_runSign_113 : decode cX23_runSign 113 = .ok (.lload 4, 2) := by decide +kernel
theorem eX23_runSign_115 : decode cX23_runSign 115 = .ok (.lload 6, 2) := by decide +kernel
theorem eX23_runSign_117 : decode cX23_runSign 117 = .ok (.lxor, 1) := by decide +kernel
theorem eX23_runSign_118 : decode cX23_runSign 118 = .ok (.land, 1) := by decide +kernel
theorem eX23_runSign_119 : decode cX23_runSign 119 = .ok (.lconst 0, 1) := by decide +kernel
theorem eX23_runSign_120 : decode cX23_runSign 120 = .ok (.lcmp, 1) := by decide +kernel
theorem eX23_runSign_121 : decode cX23_runSign 121 = .ok (.ifCond .ge 7, 3) := by decide +kernel
theorem eX23_runSign_124 : decode cX23_runSign 124 = .ok (.iconst 1, 1) := by decide +kernel
theorem eX23_runSign_125 : decode cX23_runSign 125 = .ok (.goto 4, 3) := by decide +kernel
theorem eX23_runSign_128 : decode cX23_runSign 128 = .ok (.iconst 0, 1) := by decide +kernel
theorem eX23_runSign_129 : decode cX23_runSign 129 = .ok (.istore 8, 2) := by decide +kernel
theorem eX23_runSign_131 : decode cX23_runSign 131 = .ok (.goto 209, 3) := by decide +kernel
theorem eX23_runSign_134 : decode cX23_runSign 134 = .ok (.lload 4, 2) := by decide +kernel
theorem eX23_runSign_136 : decode cX23_runSign 136 = .ok (.lload_n 2, 1) := by decide +kernel
theorem eX23_runSign_137 : decode cX23_runSign 137 = .ok (.lmul, 1) := by decide +kernel
theorem eX23_runSign_138 : decode cX23_runSign 138 = .ok (.lstore 6, 2) := by decide +kernel
theorem eX23_runSign_140 : decode cX23_runSign 140 = .ok (.lload 4, 2) := by decide +kernel
theorem eX23_runSign_142 : decode cX23_runSign 142 = .ok (.lconst 0, 1) := by decide +kernel
theorem eX23_runSign_143 : decode cX23_runSign 143 = .ok (.lcmp, 1) := by decide +kernel
theorem eX23_runSign_144 : decode cX23_runSign 144 = .ok (.ifCond .eq 34, 3) := by decide +kernel
theorem eX23_runSign_147 : decode cX23_runSign 147 = .ok (.lload 6, 2) := by decide +kernel
theorem eX23_runSign_149 : decode cX23_runSign 149 = .ok (.lload 4, 2) := by decide +kernel
theorem eX23_runSign_151 : decode cX23_runSign 151 = .ok (.ldiv, 1) := by decide +kernel
theorem eX23_runSign_152 : decode cX23_runSign 152 = .ok (.lload_n 2, 1) := by decide +kernel
theorem eX23_runSign_153 : decode cX23_runSign 153 = .ok (.lcmp, 1) := by decide +kernel
theorem eX23_runSign_154 : decode cX23_runSign 154 = .ok (.ifCond .ne 20, 3) := by decide +kernel
theorem eX23_runSign_157 : decode cX23_runSign 157 = .ok (.lload 4, 2) := by decide +kernel
theorem eX23_runSign_159 : decode cX23_runSign 159 = .ok (.ldc2_w 823, 3) := by decide +kernel
theorem eX23_runSign_162 : decode cX23_runSign 162 = .ok (.lcmp, 1) := by decide +kernel
theorem eX23_runSign_163 : decode cX23_runSign 163 = .ok (.ifCond .ne 15, 3) := by decide +kernel
theorem eX23_runSign_166 : decode cX23_runSign 166 = .ok (.lload_n 2, 1) := by decide +kernel
theorem eX23_runSign_167 : decode cX23_runSign 167 = .ok (.ldc2_w 1091, 3) := by decide +kernel
theorem eX23_runSign_170 : decode cX23_runSign 170 = .ok (.lcmp, 1) := by decide +kernel
theorem eX23_runSign_171 : decode cX23_runSign 171 = .ok (.ifCond .ne 7, 3) := by decide +kernel
theorem eX23_runSign_174 : decode cX23_runSign 174 = .ok (.iconst 1, 1) := by decide +kernel
theorem eX23_runSign_175 : decode cX23_runSign 175 = .ok (.goto 4, 3) := by decide +kernel
theorem eX23_runSign_178 : decode cX23_runSign 178 = .ok (.iconst 0, 1) := by decide +kernel
theorem eX23_runSign_179 : decode cX23_runSign 179 = .ok (.istore 8, 2) := by decide +kernel
theorem eX23_runSign_181 : decode cX23_runSign 181 = .ok (.goto 159, 3) := by decide +kernel
theorem eX23_runSign_184 : decode cX23_runSign 184 = .ok (.lload_n 2, 1) := by decide +kernel
theorem eX23_runSign_185 : decode cX23_runSign 185 = .ok (.lconst 0, 1) := by decide +kernel
theorem eX23_runSign_186 : decode cX23_runSign 186 = .ok (.lcmp, 1) := by decide +kernel
theorem eX23_runSign_187 : decode cX23_runSign 187 = .ok (.ifCond .eq 20, 3) := by decide +kernel
theorem eX23_runSign_190 : decode cX23_runSign 190 = .ok (.lload 4, 2) := by decide +kernel
theorem eX23_runSign_192 : decode cX23_runSign 192 = .ok (.ldc2_w 1091, 3) := by decide +kernel
theorem eX23_runSign_195 : decode cX23_runSign 195 = .ok (.lcmp, 1) := by decide +kernel
theorem eX23_runSign_196 : decode cX23_runSign 196 = .ok (.ifCond .ne 15, 3) := by decide +kernel
theorem eX23_runSign_199 : decode cX23_runSign 199 = .ok (.lload_n 2, 1) := by decide +kernel
theorem eX23_runSign_200 : decode cX23_runSign 200 = .ok (.ldc2_w 823, 3) := by decide +kernel
theorem eX23_runSign_203 : decode cX23_runSign 203 = .ok (.lcmp, 1) := by decide +kernel
theorem eX23_runSign_204 : decode cX23_runSign 204 = .ok (.ifCond .ne 7, 3) := by decide +kernel
theorem eX23_runSign_207 : decode cX23_runSign 207 = .ok (.iconst 1, 1) := by decide +kernel
theorem eX23_runSign_208 : decode cX23_runSign 208 = .ok (.goto 4, 3) := by decide +kernel
theorem eX23_runSign_211 : decode cX23_runSign 211 = .ok (.iconst 0, 1) := by decide +kernel
theorem eX23_runSign_212 : decode cX23_runSign 212 = .ok (.istore 8, 2) := by decide +kernel
theorem eX23_runSign_214 : decode cX23_runSign 214 = .ok (.iload 8, 2) := by decide +kernel
theorem eX23_runSign_216 : decode cX23_runSign 216 = .ok (.ifCond .ne 124, 3) := by decide +kernel
theorem eX23_runSign_219 : decode cX23_runSign 219 = .ok (.iload_n 1, 1) := by decide +kernel
theorem eX23_runSign_220 : decode cX23_runSign 220 = .ok (.bipush 43, 2) := by decide +kernel
theorem eX23_runSign_222 : decode cX23_runSign 222 = .ok (.if_icmp .ne 10, 3) := by decide +kernel
theorem eX23_runSign_225 : decode cX23_runSign 225 = .ok (.lload 4, 2) := by decide +kernel
theorem eX23_runSign_227 : decode cX23_runSign 227 = .ok (.lload_n 2, 1) := by decide +kernel
theorem eX23_runSign_228 : decode cX23_runSign 228 = .ok (.ldiv, 1) := by decide +kernel
theorem eX23_runSign_229 : decode cX23_runSign 229 = .ok (.goto 7, 3) := by decide +kernel
theorem eX23_runSign_232 : decode cX23_runSign 232 = .ok (.lload 4, 2) := by decide +kernel
theorem eX23_runSign_234 : decode cX23_runSign 234 = .ok (.lload_n 2, 1) := by decide +kernel
theorem eX23_runSign_235 : decode cX23_runSign 235 = .ok (.lrem, 1) := by decide +kernel
theorem eX23_runSign_236 : decode cX23_runSign 236 = .ok (.lstore 6, 2) := by decide +kernel
theorem eX23_runSign_238 : decode cX23_runSign 238 = .ok (.goto 102, 3) := by decide +kernel
theorem eX23_runSign_241 : decode cX23_runSign 241 = .ok (.lload 4, 2) := by decide +kernel
theorem eX23_runSign_243 : decode cX23_runSign 243 = .ok (.lload_n 2, 1) := by decide +kernel
theorem eX23_runSign_244 : decode cX23_runSign 244 = .ok (.lcmp, 1) := by decide +kernel
theorem eX23_runSign_245 : decode cX23_runSign 245 = .ok (.ifCond .ne 7, 3) := by decide +kernel
theorem eX23_runSign_248 : decode cX23_runSign 248 = .ok (.lconst 1, 1) := by decide +kernel
theorem eX23_runSign_249 : decode cX23_runSign 249 = .ok (.goto 4, 3) := by decide +kernel
theorem eX23_runSign_252 : decode cX23_runSign 252 = .ok (.lconst 0, 1) := by decide +kernel
theorem eX23_runSign_253 : decode cX23_runSign 253 = .ok (.lstore 6, 2) := by decide +kernel
theorem eX23_runSign_255 : decode cX23_runSign 255 = .ok (.goto 85, 3) := by decide +kernel
theorem eX23_runSign_258 : decode cX23_runSign 258 = .ok (.lload 4, 2) := by decide +kernel
theorem eX23_runSign_260 : decode cX23_runSign 260 = .ok (.lload_n 2, 1) := by decide +kernel
theorem eX23_runSign_261 : decode cX23_runSign 261 = .ok (.lcmp, 1) := by decide +kernel
theorem eX23_runSign_262 : decode cX23_runSign 262 = .ok (.ifCond .eq 7, 3) := by decide +kernel
theorem eX23_runSign_265 : decode cX23_runSign 265 = .ok (.lconst 1, 1) := by decide +kernel
theorem eX23_runSign_266 : decode cX23_runSign 266 = .ok (.goto 4, 3) := by decide +kernel
theorem eX23_runSign_269 : decode cX23_runSign 269 = .ok (.lconst 0, 1) := by decide +kernel
theorem eX23_runSign_270 : decode cX23_runSign 270 = .ok (.lstore 6, 2) := by decide +kernel
theorem eX23_runSign_272 : decode cX23_runSign 272 = .ok (.goto 68, 3) := by decide +kernel
theorem eX23_runSign_275 : decode cX23_runSign 275 = .ok (.lload 4, 2) := by decide +kernel
theorem eX23_runSign_277 : decode cX23_runSign 277 = .ok (.lload_n 2, 1) := by decide +kernel
theorem eX23_runSign_278 : decode cX23_runSign 278 = .ok (.lcmp, 1) := by decide +kernel
theorem eX23_runSign_279 : decode cX23_runSign 279 = .ok (.ifCond .ge 7, 3) := by decide +kernel
theorem eX23_runSign_282 : decode cX23_runSign 282 = .ok (.lconst 1, 1) := by decide +kernel
theorem eX23_runSign_283 : decode cX23_runSign 283 = .ok (.goto 4, 3) := by decide +kernel
theorem eX23_runSign_286 : decode cX23_runSign 286 = .ok (.lconst 0, 1) := by decide +kernel
theorem eX23_runSign_287 : decode cX23_runSign 287 = .ok (.lstore 6, 2) := by decide +kernel
theorem eX23_runSign_289 : decode cX23_runSign 289 = .ok (.goto 51, 3) := by decide +kernel
theorem eX23_runSign_292 : decode cX23_runSign 292 = .ok (.lload 4, 2) := by decide +kernel
theorem eX23_runSign_294 : decode cX23_runSign 294 = .ok (.lload_n 2, 1) := by decide +kernel
theorem eX23_runSign_295 : decode cX23_runSign 295 = .ok (.lcmp, 1) := by decide +kernel
theorem eX23_runSign_296 : decode cX23_runSign 296 = .ok (.ifCond .gt 7, 3) := by decide +kernel
theorem eX23_runSign_299 : decode cX23_runSign 299 = .ok (.lconst 1, 1) := by decide +kernel
theorem eX23_runSign_300 : decode cX23_runSign 300 = .ok (.goto 4, 3) := by decide +kernel
theorem eX23_runSign_303 : decode cX23_runSign 303 = .ok (.lconst 0, 1) := by decide +kernel
theorem eX23_runSign_304 : decode cX23_runSign 304 = .ok (.lstore 6, 2) := by decide +kernel
theorem eX23_runSign_306 : decode cX23_runSign 306 = .ok (.goto 34, 3) := by decide +kernel
theorem eX23_runSign_309 : decode cX23_runSign 309 = .ok (.lload 4, 2) := by decide +kernel
theorem eX23_runSign_311 : decode cX23_runSign 311 = .ok (.lload_n 2, 1) := by decide +kernel
theorem eX23_runSign_312 : decode cX23_runSign 312 = .ok (.lcmp, 1) := by decide +kernel
theorem eX23_runSign_313 : decode cX23_runSign 313 = .ok (.ifCond .le 7, 3) := by decide +kernel
theorem eX23_runSign_316 : decode cX23_runSign 316 = .ok (.lconst 1, 1) := by decide +kernel
theorem eX23_runSign_317 : decode cX23_runSign 317 = .ok (.goto 4, 3) := by decide +kernel
theorem eX23_runSign_320 : decode cX23_runSign 320 = .ok (.lconst 0, 1) := by decide +kernel
theorem eX23_runSign_321 : decode cX23_runSign 321 = .ok (.lstore 6, 2) := by decide +kernel
theorem eX23_runSign_323 : decode cX23_runSign 323 = .ok (.goto 17, 3) := by decide +kernel
theorem eX23_runSign_326 : decode cX23_runSign 326 = .ok (.lload 4, 2) := by decide +kernel
theorem eX23_runSign_328 : decode cX23_runSign 328 = .ok (.lload_n 2, 1) := by decide +kernel
theorem eX23_runSign_329 : decode cX23_runSign 329 = .ok (.lcmp, 1) := by decide +kernel
theorem eX23_runSign_330 : decode cX23_runSign 330 = .ok (.ifCond .lt 7, 3) := by decide +kernel
theorem eX23_runSign_333 : decode cX23_runSign 333 = .ok (.lconst 1, 1) := by decide +kernel
theorem eX23_runSign_334 : decode cX23_runSign 334 = .ok (.goto 4, 3) := by decide +kernel
theorem eX23_runSign_337 : decode cX23_runSign 337 = .ok (.lconst 0, 1) := by decide +kernel
theorem eX23_runSign_338 : decode cX23_runSign 338 = .ok (.lstore 6, 2) := by decide +kernel
theorem eX23_runSign_340 : decode cX23_runSign 340 = .ok (.iload 8, 2) := by decide +kernel
theorem eX23_runSign_342 : decode cX23_runSign 342 = .ok (.ifCond .eq 9, 3) := by decide +kernel
theorem eX23_runSign_345 : decode cX23_runSign 345 = .ok (.aload_n 0, 1) := by decide +kernel
theorem eX23_runSign_346 : decode cX23_runSign 346 = .ok (.bipush 7, 2) := by decide +kernel
theorem eX23_runSign_348 : decode cX23_runSign 348 = .ok (.putfield 80, 3) := by decide +kernel
theorem eX23_runSign_351 : decode cX23_runSign 351 = .ok (.aload_n 0, 1) := by decide +kernel
theorem eX23_runSign_352 : decode cX23_runSign 352 = .ok (.lload 6, 2) := by decide +kernel
theorem eX23_runSign_354 : decode cX23_runSign 354 = .ok (.invokevirtual 1019, 3) := by decide +kernel
theorem eX23_runSign_357 : decode cX23_runSign 357 = .ok (.return_, 1) := by decide +kernel
theorem eX23_gather_0 : decode cX23_gather 0 = .ok (.aload_n 0, 1) := by decide +kernel
theorem eX23_gather_1 : decode cX23_gather 1 = .ok (.getfield 1073, 3) := by decide +kernel
theorem eX23_gather_4 : decode cX23_gather 4 = .ok (.iload_n 2, 1) := by decide +kernel
theorem eX23_gather_5 : decode cX23_gather 5 = .ok (.isub, 1) := by decide +kernel
theorem eX23_gather_6 : decode cX23_gather 6 = .ok (.istore 4, 2) := by decide +kernel
theorem eX23_gather_8 : decode cX23_gather 8 = .ok (.iconst 0, 1) := by decide +kernel
theorem eX23_gather_9 : decode cX23_gather 9 = .ok (.istore 5, 2) := by decide +kernel
theorem eX23_gather_11 : decode cX23_gather 11 = .ok (.iconst 0, 1) := by decide +kernel
theorem eX23_gather_12 : decode cX23_gather 12 = .ok (.istore 6, 2) := by decide +kernel
theorem eX23_gather_14 : decode cX23_gather 14 = .ok (.iconst 0, 1) := by decide +kernel
theorem eX23_gather_15 : decode cX23_gather 15 = .ok (.istore 7, 2) := by decide +kernel
theorem eX23_gather_17 : decode cX23_gather 17 = .ok (.iload 7, 2) := by decide +kernel
theorem eX23_gather_19 : decode cX23_gather 19 = .ok (.iload_n 2, 1) := by decide +kernel
theorem eX23_gather_20 : decode cX23_gather 20 = .ok (.if_icmp .ge 104, 3) := by decide +kernel
theorem eX23_gather_23 : decode cX23_gather 23 = .ok (.iload 7, 2) := by decide +kernel
theorem eX23_gather_25 : decode cX23_gather 25 = .ok (.istore 8, 2) := by decide +kernel
theorem eX23_gather_27 : decode cX23_gather 27 = .ok (.iconst 0, 1) := by decide +kernel
theorem eX23_gather_28 : decode cX23_gather 28 = .ok (.istore 9, 2) := by decide +kernel
theorem eX23_gather_30 : decode cX23_gather 30 = .ok (.aload_n 3, 1) := by decide +kernel
theorem eX23_gather_31 : decode cX23_gather 31 = .ok (.ifnull 28, 3) := by decide +kernel
theorem eX23_gather_34 : decode cX23_gather 34 = .ok (.iload 9, 2) := by decide +kernel
theorem eX23_gather_36 : decode cX23_gather 36 = .ok (.iload_n 2, 1) := by decide +kernel
theorem eX23_gather_37 : decode cX23_gather 37 = .ok (.if_icmp .ge 22, 3) := by decide +kernel
theorem eX23_gather_40 : decode cX23_gather 40 = .ok (.aload_n 3, 1) := by decide +kernel
theorem eX23_gather_41 : decode cX23_gather 41 = .ok (.iload 9, 2) := by decide +kernel
theorem eX23_gather_43 : decode cX23_gather 43 = .ok (.iaload, 1) := by decide +kernel
theorem eX23_gather_44 : decode cX23_gather 44 = .ok (.iload 7, 2) := by decide +kernel
theorem eX23_gather_46 : decode cX23_gather 46 = .ok (.if_icmp .ne 7, 3) := by decide +kernel
theorem eX23_gather_49 : decode cX23_gather 49 = .ok (.iload 9, 2) := by decide +kernel
theorem eX23_gather_51 : decode cX23_gather 51 = .ok (.istore 8, 2) := by decide +kernel
theorem eX23_gather_53 : decode cX23_gather 53 = .ok (.iinc 9 1, 3) := by decide +kernel
theorem eX23_gather_56 : decode cX23_gather 56 = .ok (.goto (-26), 3) := by decide +kernel
theorem eX23_gather_59 : decode cX23_gather 59 = .ok (.aload_n 0, 1) := by decide +kernel
theorem eX23_gather_60 : decode cX23_gather 60 = .ok (.aload_n 1, 1) := by decide +kernel
theorem eX23_gather_61 : decode cX23_gather 61 = .ok (.iload 7, 2) := by decide +kernel
theorem eX23_gather_63 : decode cX23_gather 63 = .ok (.aaload, 1) := by decide +kernel
theorem eX23_gather_64 : decode cX23_gather 64 = .ok (.aload_n 0, 1) := by decide +kernel
theorem eX23_gather_65 : decode cX23_gather 65 = .ok (.getfield 942, 3) := by decide +kernel
theorem eX23_gather_68 : decode cX23_gather 68 = .ok (.iload 4, 2) := by decide +kernel
theorem eX23_gather_70 : decode cX23_gather 70 = .ok (.iload 8, 2) := by decide +kernel
theorem eX23_gather_72 : decode cX23_gather 72 = .ok (.iadd, 1) := by decide +kernel
theorem eX23_gather_73 : decode cX23_gather 73 = .ok (.laload, 1) := by decide +kernel
theorem eX23_gather_74 : decode cX23_gather 74 = .ok (.invokevirtual 1015, 3) := by decide +kernel
theorem eX23_gather_77 : decode cX23_gather 77 = .ok (.istore 9, 2) := by decide +kernel
theorem eX23_gather_79 : decode cX23_gather 79 = .ok (.iload 6, 2) := by decide +kernel
theorem eX23_gather_81 : decode cX23_gather 81 = .ok (.ifCond .ne 10, 3) := by decide +kernel
theorem eX23_gather_84 : decode cX23_gather 84 = .ok (.iload 9, 2) := by decide +kernel
theorem eX23_gather_86 : decode cX23_gather 86 = .ok (.istore 5, 2) := by decide +kernel
theorem eX23_gather_88 : decode cX23_gather 88 = .ok (.goto 12, 3) := by decide +kernel
theorem eX23_gather_91 : decode cX23_gather 91 = .ok (.aload_n 0, 1) := by decide +kernel
theorem eX23_gather_92 : decode cX23_gather 92 = .ok (.getfield 936, 3) := by decide +kernel
theorem eX23_gather_95 : decode cX23_gather 95 = .ok (.iload 6, 2) := by decide +kernel
theorem eX23_gather_97 : decode cX23_gather 97 = .ok (.iload 9, 2) := by decide +kernel
theorem eX23_gather_99 : decode cX23_gather 99 = .ok (.iastore, 1) := by decide +kernel
theorem eX23_gather_100 : decode cX23_gather 100 = .ok (.aload_n 0, 1) := by decide +kernel
theorem eX23_gather_101 : decode cX23_gather 101 = .ok (.iload 9, 2) := by decide +kernel
theorem eX23_gather_103 : decode cX23_gather 103 = .ok (.aload_n 0, 1) := by decide +kernel
theorem eX23_gather_104 : decode cX23_gather 104 = .ok (.aload_n 1, 1) := by decide +kernel
theorem eX23_gather_105 : decode cX23_gather 105 = .ok (.iload 7, 2) := by decide +kernel
theorem eX23_gather_107 : decode cX23_gather 107 = .ok (.aaload, 1) := by decide +kernel
theorem eX23_gather_108 : decode cX23_gather 108 = .ok (.invokevirtual 980, 3) := by decide +kernel
theorem eX23_gather_111 : decode cX23_gather 111 = .ok (.iconst 1, 1) := by decide +kernel
theorem eX23_gather_112 : decode cX23_gather 112 = .ok (.isub, 1) := by decide +kernel
theorem eX23_gather_113 : decode cX23_gather 113 = .ok (.invokevirtual 983, 3) := by decide +kernel
theorem eX23_gather_116 : decode cX23_gather 116 = .ok (.istore 6, 2) := by decide +kernel
theorem eX23_gather_118 : decode cX23_gather 118 = .ok (.iinc 7 1, 3) := by decide +kernel
theorem eX23_gather_121 : decode cX23_gather 121 = .ok (.goto (-104), 3) := by decide +kernel
theorem eX23_gather_124 : decode cX23_gather 124 = .ok (.aload_n 0, 1) := by decide +kernel
theorem eX23_gather_125 : decode cX23_gather 125 = .ok (.iload 4, 2) := by decide +kernel
theorem eX23_gather_127 : decode cX23_gather 127 = .ok (.putfield 1073, 3) := by decide +kernel
theorem eX23_gather_130 : decode cX23_gather 130 = .ok (.iload 5, 2) := by decide +kernel
theorem eX23_gather_132 : decode cX23_gather 132 = .ok (.ireturn, 1) := by decide +kernel
theorem eX23_runCall_0 : decode cX23_runCall 0 = .ok (.aload_n 0, 1) := by decide +kernel
theorem eX23_runCall_1 : decode cX23_runCall 1 = .ok (.getfield 1093, 3) := by decide +kernel
theorem eX23_runCall_4 : decode cX23_runCall 4 = .ok (.ifCond .ne 10, 3) := by decide +kernel
theorem eX23_runCall_7 : decode cX23_runCall 7 = .ok (.aload_n 0, 1) := by decide +kernel
theorem eX23_runCall_8 : decode cX23_runCall 8 = .ok (.bipush 8, 2) := by decide +kernel
theorem eX23_runCall_10 : decode cX23_runCall 10 = .ok (.putfield 80, 3) := by decide +kernel
theorem eX23_runCall_13 : decode cX23_runCall 13 = .ok (.return_, 1) := by decide +kernel
theorem eX23_runCall_14 : decode cX23_runCall 14 = .ok (.aload_n 0, 1) := by decide +kernel
theorem eX23_runCall_15 : decode cX23_runCall 15 = .ok (.dup, 1) := by decide +kernel
theorem eX23_runCall_16 : decode cX23_runCall 16 = .ok (.getfield 1093, 3) := by decide +kernel
theorem eX23_runCall_19 : decode cX23_runCall 19 = .ok (.iconst 1, 1) := by decide +kernel
theorem eX23_runCall_20 : decode cX23_runCall 20 = .ok (.isub, 1) := by decide +kernel
theorem eX23_runCall_21 : decode cX23_runCall 21 = .ok (.putfield 1093, 3) := by decide +kernel
theorem eX23_runCall_24 : decode cX23_runCall 24 = .ok (.aload_n 0, 1) := by decide +kernel
theorem eX23_runCall_25 : decode cX23_runCall 25 = .ok (.getfield 1076, 3) := by decide +kernel
theorem eX23_runCall_28 : decode cX23_runCall 28 = .ok (.bipush 60, 2) := by decide +kernel
theorem eX23_runCall_30 : decode cX23_runCall 30 = .ok (.if_icmp .ne 10, 3) := by decide +kernel
theorem eX23_runCall_33 : decode cX23_runCall 33 = .ok (.aload_n 0, 1) := by decide +kernel
theorem eX23_runCall_34 : decode cX23_runCall 34 = .ok (.bipush 10, 2) := by decide +kernel
theorem eX23_runCall_36 : decode cX23_runCall 36 = .ok (.putfield 80, 3) := by decide +kernel
theorem eX23_runCall_39 : decode cX23_runCall 39 = .ok (.return_, 1) := by decide +kernel
theorem eX23_runCall_40 : decode cX23_runCall 40 = .ok (.aload_n 0, 1) := by decide +kernel
theorem eX23_runCall_41 : decode cX23_runCall 41 = .ok (.getfield 232, 3) := by decide +kernel
theorem eX23_runCall_44 : decode cX23_runCall 44 = .ok (.aload_n 0, 1) := by decide +kernel
theorem eX23_runCall_45 : decode cX23_runCall 45 = .ok (.getfield 629, 3) := by decide +kernel
theorem eX23_runCall_48 : decode cX23_runCall 48 = .ok (.iload_n 1, 1) := by decide +kernel
theorem eX23_runCall_49 : decode cX23_runCall 49 = .ok (.iaload, 1) := by decide +kernel
theorem eX23_runCall_50 : decode cX23_runCall 50 = .ok (.aaload, 1) := by decide +kernel
theorem eX23_runCall_51 : decode cX23_runCall 51 = .ok (.astore_n 2, 1) := by decide +kernel
theorem eX23_runCall_52 : decode cX23_runCall 52 = .ok (.aload_n 0, 1) := by decide +kernel
theorem eX23_runCall_53 : decode cX23_runCall 53 = .ok (.getfield 947, 3) := by decide +kernel
theorem eX23_runCall_56 : decode cX23_runCall 56 = .ok (.aload_n 0, 1) := by decide +kernel
theorem eX23_runCall_57 : decode cX23_runCall 57 = .ok (.getfield 1076, 3) := by decide +kernel
theorem eX23_runCall_60 : decode cX23_runCall 60 = .ok (.aload_n 0, 1) := by decide +kernel
theorem eX23_runCall_61 : decode cX23_runCall 61 = .ok (.getfield 1096, 3) := by decide +kernel
theorem eX23_runCall_64 : decode cX23_runCall 64 = .ok (.iastore, 1) := by decide +kernel
theorem eX23_runCall_65 : decode cX23_runCall 65 = .ok (.aload_n 0, 1) := by decide +kernel
theorem eX23_runCall_66 : decode cX23_runCall 66 = .ok (.dup, 1) := by decide +kernel
theorem eX23_runCall_67 : decode cX23_runCall 67 = .ok (.getfield 1076, 3) := by decide +kernel
theorem eX23_runCall_70 : decode cX23_runCall 70 = .ok (.iconst 1, 1) := by decide +kernel
theorem eX23_runCall_71 : decode cX23_runCall 71 = .ok (.iadd, 1) := by decide +kernel
theorem eX23_runCall_72 : decode cX23_runCall 72 = .ok (.putfield 1076, 3) := by decide +kernel
theorem eX23_runCall_75 : decode cX23_runCall 75 = .ok (.aload_n 0, 1) := by decide +kernel
theorem eX23_runCall_76 : decode cX23_runCall 76 = .ok (.getfield 1073, 3) := by decide +kernel
theorem eX23_runCall_79 : decode cX23_runCall 79 = .ok (.aload_n 2, 1) := by decide +kernel
theorem eX23_runCall_80 : decode cX23_runCall 80 = .ok (.getfield 139, 3) := by decide +kernel
theorem eX23_runCall_83 : decode cX23_runCall 83 = .ok (.isub, 1) := by decide +kernel
theorem eX23_runCall_84 : decode cX23_runCall 84 = .ok (.istore_n 3, 1) := by decide +kernel
theorem eX23_runCall_85 : decode cX23_runCall 85 = .ok (.iconst 0, 1) := by decide +kernel
theorem eX23_runCall_86 : decode cX23_runCall 86 = .ok (.istore 4, 2) := by decide +kernel
theorem eX23_runCall_88 : decode cX23_runCall 88 = .ok (.iload 4, 2) := by decide +kernel
theorem eX23_runCall_90 : decode cX23_runCall 90 = .ok (.aload_n 2, 1) := by decide +kernel
theorem eX23_runCall_91 : decode cX23_runCall 91 = .ok (.getfield 139, 3) := by decide +kernel
theorem eX23_runCall_94 : decode cX23_runCall 94 = .ok (.if_icmp .ge 48, 3) := by decide +kernel
theorem eX23_runCall_97 : decode cX23_runCall 97 = .ok (.aload_n 0, 1) := by decide +kernel
theorem eX23_runCall_98 : decode cX23_runCall 98 = .ok (.getfield 945, 3) := by decide +kernel
theorem eX23_runCall_101 : decode cX23_runCall 101 = .ok (.aload_n 0, 1) := by decide +kernel
theorem eX23_runCall_102 : decode cX23_runCall 102 = .ok (.aload_n 2, 1) := by decide +kernel
theorem eX23_runCall_103 : decode cX23_runCall 103 = .ok (.getfield 194, 3) := by decide +kernel
theorem eX23_runCall_106 : decode cX23_runCall 106 = .ok (.iload 4, 2) := by decide +kernel
theorem eX23_runCall_108 : decode cX23_runCall 108 = .ok (.aaload, 1) := by decide +kernel
theorem eX23_runCall_109 : decode cX23_runCall 109 = .ok (.invokevirtual 1079, 3) := by decide +kernel
theorem eX23_runCall_112 : decode cX23_runCall 112 = .ok (.aload_n 0, 1) := by decide +kernel
theorem eX23_runCall_113 : decode cX23_runCall 113 = .ok (.aload_n 2, 1) := by decide +kernel
theorem eX23_runCall_114 : decode cX23_runCall 114 = .ok (.getfield 194, 3) := by decide +kernel
theorem eX23_runCall_117 : decode cX23_runCall 117 = .ok (.iload 4, 2) := by decide +kernel
theorem eX23_runCall_119 : decode cX23_runCall 119 = .ok (.aaload, 1) := by decide +kernel
theorem eX23_runCall_120 : decode cX23_runCall 120 = .ok (.getfield 471, 3) := by decide +kernel
theorem eX23_runCall_123 : decode cX23_runCall 123 = .ok (.aload_n 0, 1) := by decide +kernel
theorem eX23_runCall_124 : decode cX23_runCall 124 = .ok (.getfield 942, 3) := by decide +kernel
theorem eX23_runCall_127 : decode cX23_runCall 127 = .ok (.iload_n 3, 1) := by decide +kernel
theorem eX23_runCall_128 : decode cX23_runCall 128 = .ok (.iload 4, 2) := by decide +kernel
theorem eX23_runCall_130 : decode cX23_runCall 130 = .ok (.iadd, 1) := by decide +kernel
theorem eX23_runCall_131 : decode cX23_runCall 131 = .ok (.laload, 1) := by decide +kernel
theorem eX23_runCall_132 : decode cX23_runCall 132 = .ok (.invokevirtual 1015, 3) := by decide +kernel
theorem eX23_runCall_135 : decode cX23_runCall 135 = .ok (.iastore, 1) := by decide +kernel
theorem eX23_runCall_136 : decode cX23_runCall 136 = .ok (.iinc 4 1, 3) := by decide +kernel
theorem eX23_runCall_139 : decode cX23_runCall 139 = .ok (.goto (-51), 3) := by decide +kernel
theorem eX23_runCall_142 : decode cX23_runCall 142 = .ok (.aload_n 0, 1) := by decide +kernel
theorem eX23_runCall_143 : decode cX23_runCall 143 = .ok (.iload_n 3, 1) := by decide +kernel
theorem eX23_runCall_144 : decode cX23_runCall 144 = .ok (.putfield 1073, 3) := by decide +kernel
theorem eX23_runCall_147 : decode cX23_runCall 147 = .ok (.aload_n 0, 1) := by decide +kernel
theorem eX23_runCall_148 : decode cX23_runCall 148 = .ok (.aload_n 2, 1) := by decide +kernel
theorem eX23_runCall_149 : decode cX23_runCall 149 = .ok (.getfield 807, 3) := by decide +kernel
theorem eX23_runCall_152 : decode cX23_runCall 152 = .ok (.putfield 1096, 3) := by decide +kernel
theorem eX23_runCall_155 : decode cX23_runCall 155 = .ok (.return_, 1) := by decide +kernel
theorem eX23_runAssign_0 : decode cX23_runAssign 0 = .ok (.aload_n 0, 1) := by decide +kernel
theorem eX23_runAssign_1 : decode cX23_runAssign 1 = .ok (.getfield 656, 3) := by decide +kernel
theorem eX23_runAssign_4 : decode cX23_runAssign 4 = .ok (.iload_n 1, 1) := by decide +kernel
theorem eX23_runAssign_5 : decode cX23_runAssign 5 = .ok (.aaload, 1) := by decide +kernel
theorem eX23_runAssign_6 : decode cX23_runAssign 6 = .ok (.astore_n 2, 1) := by decide +kernel
theorem eX23_runAssign_7 : decode cX23_runAssign 7 = .ok (.aload_n 2, 1) := by decide +kernel
theorem eX23_runAssign_8 : decode cX23_runAssign 8 = .ok (.invokevirtual 691, 3) := by decide +kernel
theorem eX23_runAssign_11 : decode cX23_runAssign 11 = .ok (.astore_n 3, 1) := by decide +kernel
theorem eX23_runAssign_12 : decode cX23_runAssign 12 = .ok (.aload_n 0, 1) := by decide +kernel
theorem eX23_runAssign_13 : decode cX23_runAssign 13 = .ok (.invokevirtual 1011, 3) := by decide +kernel
theorem eX23_runAssign_16 : decode cX23_runAssign 16 = .ok (.lstore 4, 2) := by decide +kernel
theorem eX23_runAssign_18 : decode cX23_runAssign 18 = .ok (.aload_n 0, 1) := by decide +kernel
theorem eX23_runAssign_19 : decode cX23_runAssign 19 = .ok (.aload_n 2, 1) := by decide +kernel
theorem eX23_runAssign_20 : decode cX23_runAssign 20 = .ok (.aload_n 2, 1) := by decide +kernel
theorem eX23_runAssign_21 : decode cX23_runAssign 21 = .ok (.getfield 711, 3) := by decide +kernel
theorem eX23_runAssign_24 : decode cX23_runAssign 24 = .ok (.invokevirtual 1083, 3) := by decide +kernel
theorem eX23_runAssign_27 : decode cX23_runAssign 27 = .ok (.istore 6, 2) := by decide +kernel
theorem eX23_runAssign_29 : decode cX23_runAssign 29 = .ok (.aload_n 0, 1) := by decide +kernel
theorem eX23_runAssign_30 : decode cX23_runAssign 30 = .ok (.aload_n 3, 1) := by decide +kernel
theorem eX23_runAssign_31 : decode cX23_runAssign 31 = .ok (.iload 6, 2) := by decide +kernel
theorem eX23_runAssign_33 : decode cX23_runAssign 33 = .ok (.invokevirtual 1051, 3) := by decide +kernel
theorem eX23_runAssign_36 : decode cX23_runAssign 36 = .ok (.aload_n 0, 1) := by decide +kernel
theorem eX23_runAssign_37 : decode cX23_runAssign 37 = .ok (.invokevirtual 1099, 3) := by decide +kernel
theorem eX23_runAssign_40 : decode cX23_runAssign 40 = .ok (.aload_n 0, 1) := by decide +kernel
theorem eX23_runAssign_41 : decode cX23_runAssign 41 = .ok (.aload_n 3, 1) := by decide +kernel
theorem eX23_runAssign_42 : decode cX23_runAssign 42 = .ok (.iload 6, 2) := by decide +kernel
theorem eX23_runAssign_44 : decode cX23_runAssign 44 = .ok (.lload 4, 2) := by decide +kernel
theorem eX23_runAssign_46 : decode cX23_runAssign 46 = .ok (.invokevirtual 1102, 3) := by decide +kernel
theorem eX23_runAssign_49 : decode cX23_runAssign 49 = .ok (.return_, 1) := by decide +kernel
theorem eX23_runBind_0 : decode cX23_runBind 0 = .ok (.aload_n 0, 1) := by decide +kernel
theorem eX23_runBind_1 : decode cX23_runBind 1 = .ok (.invokevirtual 1011, 3) := by decide +kernel
theorem eX23_runBind_4 : decode cX23_runBind 4 = .ok (.l2i, 1) := by decide +kernel
theorem eX23_runBind_5 : decode cX23_runBind 5 = .ok (.istore_n 2, 1) := by decide +kernel
theorem eX23_runBind_6 : decode cX23_runBind 6 = .ok (.aload_n 0, 1) := by decide +kernel
theorem eX23_runBind_7 : decode cX23_runBind 7 = .ok (.iload_n 2, 1) := by decide +kernel
theorem eX23_runBind_8 : decode cX23_runBind 8 = .ok (.invokevirtual 1044, 3) := by decide +kernel
theorem eX23_runBind_11 : decode cX23_runBind 11 = .ok (.istore_n 3, 1) := by decide +kernel
theorem eX23_runBind_12 : decode cX23_runBind 12 = .ok (.iconst 0, 1) := by decide +kernel
theorem eX23_runBind_13 : decode cX23_runBind 13 = .ok (.istore 4, 2) := by decide +kernel
theorem eX23_runBind_15 : decode cX23_runBind 15 = .ok (.iload 4, 2) := by decide +kernel
theorem eX23_runBind_17 : decode cX23_runBind 17 = .ok (.aload_n 1, 1) := by decide +kernel
theorem eX23_runBind_18 : decode cX23_runBind 18 = .ok (.getfield 327, 3) := by decide +kernel
theorem eX23_runBind_21 : decode cX23_runBind 21 = .ok (.if_icmp .ge 46, 3) := by decide +kernel
theorem eX23_runBind_24 : decode cX23_runBind 24 = .ok (.aload_n 0, 1) := by decide +kernel
theorem eX23_runBind_25 : decode cX23_runBind 25 = .ok (.getfield 945, 3) := by decide +kernel
theorem eX23_runBind_28 : decode cX23_runBind 28 = .ok (.aload_n 0, 1) := by decide +kernel
theorem eX23_runBind_29 : decode cX23_runBind 29 = .ok (.aload_n 1, 1) := by decide +kernel
theorem eX23_runBind_30 : decode cX23_runBind 30 = .ok (.getfield 596, 3) := by decide +kernel
theorem eX23_runBind_33 : decode cX23_runBind 33 = .ok (.iload 4, 2) := by decide +kernel
theorem eX23_runBind_35 : decode cX23_runBind 35 = .ok (.aaload, 1) := by decide +kernel
theorem eX23_runBind_36 : decode cX23_runBind 36 = .ok (.invokevirtual 1079, 3) := by decide +kernel
theorem eX23_runBind_39 : decode cX23_runBind 39 = .ok (.iload_n 3, 1) := by decide +kernel
theorem eX23_runBind_40 : decode cX23_runBind 40 = .ok (.iastore, 1) := by decide +kernel
theorem eX23_runBind_41 : decode cX23_runBind 41 = .ok (.aload_n 0, 1) := by decide +kernel
theorem eX23_runBind_42 : decode cX23_runBind 42 = .ok (.iload_n 3, 1) := by decide +kernel
theorem eX23_runBind_43 : decode cX23_runBind 43 = .ok (.aload_n 0, 1) := by decide +kernel
theorem eX23_runBind_44 : decode cX23_runBind 44 = .ok (.aload_n 1, 1) := by decide +kernel
theorem eX23_runBind_45 : decode cX23_runBind 45 = .ok (.getfield 596, 3) := by decide +kernel
theorem eX23_runBind_48 : decode cX23_runBind 48 = .ok (.iload 4, 2) := by decide +kernel
theorem eX23_runBind_50 : decode cX23_runBind 50 = .ok (.aaload, 1) := by decide +kernel
theorem eX23_runBind_51 : decode cX23_runBind 51 = .ok (.getfield 471, 3) := by decide +kernel
theorem eX23_runBind_54 : decode cX23_runBind 54 = .ok (.invokevirtual 980, 3) := by decide +kernel
theorem eX23_runBind_57 : decode cX23_runBind 57 = .ok (.invokevirtual 983, 3) := by decide +kernel
theorem eX23_runBind_60 : decode cX23_runBind 60 = .ok (.istore_n 3, 1) := by decide +kernel
theorem eX23_runBind_61 : decode cX23_runBind 61 = .ok (.iinc 4 1, 3) := by decide +kernel
theorem eX23_runBind_64 : decode cX23_runBind 64 = .ok (.goto (-49), 3) := by decide +kernel
theorem eX23_runBind_67 : decode cX23_runBind 67 = .ok (.aload_n 0, 1) := by decide +kernel
theorem eX23_runBind_68 : decode cX23_runBind 68 = .ok (.iload_n 2, 1) := by decide +kernel
theorem eX23_runBind_69 : decode cX23_runBind 69 = .ok (.invokevirtual 986, 3) := by decide +kernel
theorem eX23_runBind_72 : decode cX23_runBind 72 = .ok (.return_, 1) := by decide +kernel
theorem eX23_runOut_0 : decode cX23_runOut 0 = .ok (.aload_n 0, 1) := by decide +kernel
theorem eX23_runOut_1 : decode cX23_runOut 1 = .ok (.getfield 945, 3) := by decide +kernel
theorem eX23_runOut_4 : decode cX23_runOut 4 = .ok (.aload_n 0, 1) := by decide +kernel
theorem eX23_runOut_5 : decode cX23_runOut 5 = .ok (.aload_n 1, 1) := by decide +kernel
theorem eX23_runOut_6 : decode cX23_runOut 6 = .ok (.invokevirtual 1079, 3) := by decide +kernel
theorem eX23_runOut_9 : decode cX23_runOut 9 = .ok (.iaload, 1) := by decide +kernel
theorem eX23_runOut_10 : decode cX23_runOut 10 = .ok (.istore_n 2, 1) := by decide +kernel
theorem eX23_runOut_11 : decode cX23_runOut 11 = .ok (.aload_n 1, 1) := by decide +kernel
theorem eX23_runOut_12 : decode cX23_runOut 12 = .ok (.getfield 471, 3) := by decide +kernel
theorem eX23_runOut_15 : decode cX23_runOut 15 = .ok (.ifnonnull 9, 3) := by decide +kernel
theorem eX23_runOut_18 : decode cX23_runOut 18 = .ok (.aload_n 0, 1) := by decide +kernel
theorem eX23_runOut_19 : decode cX23_runOut 19 = .ok (.iload_n 2, 1) := by decide +kernel
theorem eX23_runOut_20 : decode cX23_runOut 20 = .ok (.invokevirtual 986, 3) := by decide +kernel
theorem eX23_runOut_23 : decode cX23_runOut 23 = .ok (.return_, 1) := by decide +kernel
theorem eX23_runOut_24 : decode cX23_runOut 24 = .ok (.aload_n 0, 1) := by decide +kernel
theorem eX23_runOut_25 : decode cX23_runOut 25 = .ok (.aload_n 1, 1) := by decide +kernel
theorem eX23_runOut_26 : decode cX23_runOut 26 = .ok (.getfield 471, 3) := by decide +kernel
theorem eX23_runOut_29 : decode cX23_runOut 29 = .ok (.iload_n 2, 1) := by decide +kernel
theorem eX23_runOut_30 : decode cX23_runOut 30 = .ok (.invokevirtual 1051, 3) := by decide +kernel
theorem eX23_runOut_33 : decode cX23_runOut 33 = .ok (.aload_n 0, 1) := by decide +kernel
theorem eX23_runOut_34 : decode cX23_runOut 34 = .ok (.invokevirtual 1099, 3) := by decide +kernel
theorem eX23_runOut_37 : decode cX23_runOut 37 = .ok (.aload_n 0, 1) := by decide +kernel
theorem eX23_runOut_38 : decode cX23_runOut 38 = .ok (.aload_n 1, 1) := by decide +kernel
theorem eX23_runOut_39 : decode cX23_runOut 39 = .ok (.getfield 471, 3) := by decide +kernel
theorem eX23_runOut_42 : decode cX23_runOut 42 = .ok (.iload_n 2, 1) := by decide +kernel
theorem eX23_runOut_43 : decode cX23_runOut 43 = .ok (.invokevirtual 1055, 3) := by decide +kernel
theorem eX23_runOut_46 : decode cX23_runOut 46 = .ok (.return_, 1) := by decide +kernel
theorem eX23_runPrint_0 : decode cX23_runPrint 0 = .ok (.aload_n 0, 1) := by decide +kernel
theorem eX23_runPrint_1 : decode cX23_runPrint 1 = .ok (.invokevirtual 1011, 3) := by decide +kernel
theorem eX23_runPrint_4 : decode cX23_runPrint 4 = .ok (.lstore_n 2, 1) := by decide +kernel
theorem eX23_runPrint_5 : decode cX23_runPrint 5 = .ok (.aload_n 1, 1) := by decide +kernel
theorem eX23_runPrint_6 : decode cX23_runPrint 6 = .ok (.getfield 386, 3) := by decide +kernel
theorem eX23_runPrint_9 : decode cX23_runPrint 9 = .ok (.ifCond .ne 11, 3) := by decide +kernel
theorem eX23_runPrint_12 : decode cX23_runPrint 12 = .ok (.aload_n 0, 1) := by decide +kernel
theorem eX23_runPrint_13 : decode cX23_runPrint 13 = .ok (.lload_n 2, 1) := by decide +kernel
theorem eX23_runPrint_14 : decode cX23_runPrint 14 = .ok (.invokevirtual 1037, 3) := by decide +kernel
theorem eX23_runPrint_17 : decode cX23_runPrint 17 = .ok (.goto 22, 3) := by decide +kernel
theorem eX23_runPrint_20 : decode cX23_runPrint 20 = .ok (.aload_n 0, 1) := by decide +kernel
theorem eX23_runPrint_21 : decode cX23_runPrint 21 = .ok (.lload_n 2, 1) := by decide +kernel
theorem eX23_runPrint_22 : decode cX23_runPrint 22 = .ok (.lconst 0, 1) := by decide +kernel
theorem eX23_runPrint_23 : decode cX23_runPrint 23 = .ok (.lcmp, 1) := by decide +kernel
theorem eX23_runPrint_24 : decode cX23_runPrint 24 = .ok (.ifCond .ne 9, 3) := by decide +kernel
theorem eX23_runPrint_27 : decode cX23_runPrint 27 = .ok (.ldc2_w 1106, 3) := by decide +kernel
theorem eX23_runPrint_30 : decode cX23_runPrint 30 = .ok (.goto 6, 3) := by decide +kernel
theorem eX23_runPrint_33 : decode cX23_runPrint 33 = .ok (.ldc2_w 1108, 3) := by decide +kernel
theorem eX23_runPrint_36 : decode cX23_runPrint 36 = .ok (.invokevirtual 1110, 3) := by decide +kernel
theorem eX23_runPrint_39 : decode cX23_runPrint 39 = .ok (.aload_n 0, 1) := by decide +kernel
theorem eX23_runPrint_40 : decode cX23_runPrint 40 = .ok (.bipush 10, 2) := by decide +kernel
theorem eX23_runPrint_42 : decode cX23_runPrint 42 = .ok (.invokevirtual 1034, 3) := by decide +kernel
theorem eX23_runPrint_45 : decode cX23_runPrint 45 = .ok (.return_, 1) := by decide +kernel
theorem eX23_runMatch_0 : decode cX23_runMatch 0 = .ok (.aload_n 0, 1) := by decide +kernel
theorem eX23_runMatch_1 : decode cX23_runMatch 1 = .ok (.getfield 625, 3) := by decide +kernel
theorem eX23_runMatch_4 : decode cX23_runMatch 4 = .ok (.iload_n 1, 1) := by decide +kernel
theorem eX23_runMatch_5 : decode cX23_runMatch 5 = .ok (.iaload, 1) := by decide +kernel
theorem eX23_runMatch_6 : decode cX23_runMatch 6 = .ok (.bipush 20, 2) := by decide +kernel
theorem eX23_runMatch_8 : decode cX23_runMatch 8 = .ok (.if_icmp .ne 18, 3) := by decide +kernel
theorem eX23_runMatch_11 : decode cX23_runMatch 11 = .ok (.aload_n 0, 1) := by decide +kernel
theorem eX23_runMatch_12 : decode cX23_runMatch 12 = .ok (.getfield 942, 3) := by decide +kernel
theorem eX23_runMatch_15 : decode cX23_runMatch 15 = .ok (.aload_n 0, 1) := by decide +kernel
theorem eX23_runMatch_16 : decode cX23_runMatch 16 = .ok (.getfield 1073, 3) := by decide +kernel
theorem eX23_runMatch_19 : decode cX23_runMatch 19 = .ok (.iconst 1, 1) := by decide +kernel
theorem eX23_runMatch_20 : decode cX23_runMatch 20 = .ok (.isub, 1) := by decide +kernel
theorem eX23_runMatch_21 : decode cX23_runMatch 21 = .ok (.laload, 1) := by decide +kernel
theorem eX23_runMatch_22 : decode cX23_runMatch 22 = .ok (.l2i, 1) := by decide +kernel
theorem eX23_runMatch_23 : decode cX23_runMatch 23 = .ok (.goto 28, 3) := by decide +kernel
theorem eX23_runMatch_26 : decode cX23_runMatch 26 = .ok (.aload_n 0, 1) := by decide +kernel
theorem eX23_runMatch_27 : decode cX23_runMatch 27 = .ok (.getfield 930, 3) := by decide +kernel
theorem eX23_runMatch_30 : decode cX23_runMatch 30 = .ok (.aload_n 0, 1) := by decide +kernel
theorem eX23_runMatch_31 : decode cX23_runMatch 31 = .ok (.aload_n 0, 1) := by decide +kernel
theorem eX23_runMatch_32 : decode cX23_runMatch 32 = .ok (.getfield 656, 3) := by decide +kernel
theorem eX23_runMatch_35 : decode cX23_runMatch 35 = .ok (.iload_n 1, 1) := by decide +kernel
theorem eX23_runMatch_36 : decode cX23_runMatch 36 = .ok (.aaload, 1) := by decide +kernel
theorem eX23_runMatch_37 : decode cX23_runMatch 37 = .ok (.aload_n 0, 1) := by decide +kernel
theorem eX23_runMatch_38 : decode cX23_runMatch 38 = .ok (.getfield 656, 3) := by decide +kernel
theorem eX23_runMatch_41 : decode cX23_runMatch 41 = .ok (.iload_n 1, 1) := by decide +kernel
theorem eX23_runMatch_42 : decode cX23_runMatch 42 = .ok (.aaload, 1) := by decide +kernel
theorem eX23_runMatch_43 : decode cX23_runMatch 43 = .ok (.getfield 711, 3) := by decide +kernel
theorem eX23_runMatch_46 : decode cX23_runMatch 46 = .ok (.invokevirtual 1083, 3) := by decide +kernel
theorem eX23_runMatch_49 : decode cX23_runMatch 49 = .ok (.laload, 1) := by decide +kernel
theorem eX23_runMatch_50 : decode cX23_runMatch 50 = .ok (.l2i, 1) := by decide +kernel
theorem eX23_runMatch_51 : decode cX23_runMatch 51 = .ok (.istore_n 2, 1) := by decide +kernel
theorem eX23_runMatch_52 : decode cX23_runMatch 52 = .ok (.aload_n 0, 1) := by decide +kernel
theorem eX23_runMatch_53 : decode cX23_runMatch 53 = .ok (.aload_n 0, 1) := by decide +kernel
theorem eX23_runMatch_54 : decode cX23_runMatch 54 = .ok (.getfield 668, 3) := by decide +kernel
theorem eX23_runMatch_57 : decode cX23_runMatch 57 = .ok (.iload_n 1, 1) := by decide +kernel
theorem eX23_runMatch_58 : decode cX23_runMatch 58 = .ok (.aaload, 1) := by decide +kernel
theorem eX23_runMatch_59 : decode cX23_runMatch 59 = .ok (.aload_n 0, 1) := by decide +kernel
theorem eX23_runMatch_60 : decode cX23_runMatch 60 = .ok (.iload_n 2, 1) := by decide +kernel
theorem eX23_runMatch_61 : decode cX23_runMatch 61 = .ok (.invokevirtual 1000, 3) := by decide +kernel
theorem eX23_runMatch_64 : decode cX23_runMatch 64 = .ok (.iaload, 1) := by decide +kernel
theorem eX23_runMatch_65 : decode cX23_runMatch 65 = .ok (.putfield 1096, 3) := by decide +kernel
theorem eX23_runMatch_68 : decode cX23_runMatch 68 = .ok (.return_, 1) := by decide +kernel
theorem eX23_nextInput_0 : decode cX23_nextInput 0 = .ok (.aload_n 0, 1) := by decide +kernel
theorem eX23_nextInput_1 : decode cX23_nextInput 1 = .ok (.getfield 1113, 3) := by decide +kernel
theorem eX23_nextInput_4 : decode cX23_nextInput 4 = .ok (.ifCond .ne 5, 3) := by decide +kernel
theorem eX23_nextInput_7 : decode cX23_nextInput 7 = .ok (.lconst 0, 1) := by decide +kernel
theorem eX23_nextInput_8 : decode cX23_nextInput 8 = .ok (.lreturn, 1) := by decide +kernel
theorem eX23_nextInput_9 : decode cX23_nextInput 9 = .ok (.aload_n 0, 1) := by decide +kernel
theorem eX23_nextInput_10 : decode cX23_nextInput 10 = .ok (.getfield 963, 3) := by decide +kernel
theorem eX23_nextInput_13 : decode cX23_nextInput 13 = .ok (.iconst 0, 1) := by decide +kernel
theorem eX23_nextInput_14 : decode cX23_nextInput 14 = .ok (.laload, 1) := by decide +kernel
theorem eX23_nextInput_15 : decode cX23_nextInput 15 = .ok (.lstore_n 1, 1) := by decide +kernel
theorem eX23_nextInput_16 : decode cX23_nextInput 16 = .ok (.aload_n 0, 1) := by decide +kernel
theorem eX23_nextInput_17 : decode cX23_nextInput 17 = .ok (.dup, 1) := by decide +kernel
theorem eX23_nextInput_18 : decode cX23_nextInput 18 = .ok (.getfield 1113, 3) := by decide +kernel
theorem eX23_nextInput_21 : decode cX23_nextInput 21 = .ok (.iconst 1, 1) := by decide +kernel
theorem eX23_nextInput_22 : decode cX23_nextInput 22 = .ok (.isub, 1) := by decide +kernel
theorem eX23_nextInput_23 : decode cX23_nextInput 23 = .ok (.putfield 1113, 3) := by decide +kernel
theorem eX23_nextInput_26 : decode cX23_nextInput 26 = .ok (.iconst 0, 1) := by decide +kernel
theorem eX23_nextInput_27 : decode cX23_nextInput 27 = .ok (.istore_n 3, 1) := by decide +kernel
theorem eX23_nextInput_28 : decode cX23_nextInput 28 = .ok (.iload_n 3, 1) := by decide +kernel
theorem eX23_nextInput_29 : decode cX23_nextInput 29 = .ok (.aload_n 0, 1) := by decide +kernel
theorem eX23_nextInput_30 : decode cX23_nextInput 30 = .ok (.getfield 1113, 3) := by decide +kernel
theorem eX23_nextInput_33 : decode cX23_nextInput 33 = .ok (.if_icmp .ge 23, 3) := by decide +kernel
theorem eX23_nextInput_36 : decode cX23_nextInput 36 = .ok (.aload_n 0, 1) := by decide +kernel
theorem eX23_nextInput_37 : decode cX23_nextInput 37 = .ok (.getfield 963, 3) := by decide +kernel
theorem eX23_nextInput_40 : decode cX23_nextInput 40 = .ok (.iload_n 3, 1) := by decide +kernel
theorem eX23_nextInput_41 : decode cX23_nextInput 41 = .ok (.aload_n 0, 1) := by decide +kernel
theorem eX23_nextInput_42 : decode cX23_nextInput 42 = .ok (.getfield 963, 3) := by decide +kernel
theorem eX23_nextInput_45 : decode cX23_nextInput 45 = .ok (.iload_n 3, 1) := by decide +kernel
theorem eX23_nextInput_46 : decode cX23_nextInput 46 = .ok (.iconst 1, 1) := by decide +kernel
theorem eX23_nextInput_47 : decode cX23_nextInput 47 = .ok (.iadd, 1) := by decide +kernel
theorem eX23_nextInput_48 : decode cX23_nextInput 48 = .ok (.laload, 1) := by decide +kernel
theorem eX23_nextInput_49 : decode cX23_nextInput 49 = .ok (.lastore, 1) := by decide +kernel
theorem eX23_nextInput_50 : decode cX23_nextInput 50 = .ok (.iinc 3 1, 3) := by decide +kernel
theorem eX23_nextInput_53 : decode cX23_nextInput 53 = .ok (.goto (-25), 3) := by decide +kernel
theorem eX23_nextInput_56 : decode cX23_nextInput 56 = .ok (.lload_n 1, 1) := by decide +kernel
theorem eX23_nextInput_57 : decode cX23_nextInput 57 = .ok (.lreturn, 1) := by decide +kernel
theorem eX23_runMinus_0 : decode cX23_runMinus 0 = .ok (.aload_n 0, 1) := by decide +kernel
theorem eX23_runMinus_1 : decode cX23_runMinus 1 = .ok (.invokevirtual 1011, 3) := by decide +kernel
theorem eX23_runMinus_4 : decode cX23_runMinus 4 = .ok (.lstore_n 1, 1) := by decide +kernel
theorem eX23_runMinus_5 : decode cX23_runMinus 5 = .ok (.lload_n 1, 1) := by decide +kernel
theorem eX23_runMinus_6 : decode cX23_runMinus 6 = .ok (.ldc2_w 1091, 3) := by decide +kernel
theorem eX23_runMinus_9 : decode cX23_runMinus 9 = .ok (.lcmp, 1) := by decide +kernel
theorem eX23_runMinus_10 : decode cX23_runMinus 10 = .ok (.ifCond .ne 9, 3) := by decide +kernel
theorem eX23_runMinus_13 : decode cX23_runMinus 13 = .ok (.aload_n 0, 1) := by decide +kernel
theorem eX23_runMinus_14 : decode cX23_runMinus 14 = .ok (.bipush 7, 2) := by decide +kernel
theorem eX23_runMinus_16 : decode cX23_runMinus 16 = .ok (.putfield 80, 3) := by decide +kernel
theorem eX23_runMinus_19 : decode cX23_runMinus 19 = .ok (.aload_n 0, 1) := by decide +kernel
theorem eX23_runMinus_20 : decode cX23_runMinus 20 = .ok (.lload_n 1, 1) := by decide +kernel
theorem eX23_runMinus_21 : decode cX23_runMinus 21 = .ok (.lneg, 1) := by decide +kernel
theorem eX23_runMinus_22 : decode cX23_runMinus 22 = .ok (.invokevirtual 1019, 3) := by decide +kernel
theorem eX23_runMinus_25 : decode cX23_runMinus 25 = .ok (.return_, 1) := by decide +kernel
theorem eX23_runMade_0 : decode cX23_runMade 0 = .ok (.aload_n 0, 1) := by decide +kernel
theorem eX23_runMade_1 : decode cX23_runMade 1 = .ok (.getfield 232, 3) := by decide +kernel
theorem eX23_runMade_4 : decode cX23_runMade 4 = .ok (.aload_n 0, 1) := by decide +kernel
theorem eX23_runMade_5 : decode cX23_runMade 5 = .ok (.getfield 629, 3) := by decide +kernel
theorem eX23_runMade_8 : decode cX23_runMade 8 = .ok (.iload_n 1, 1) := by decide +kernel
theorem eX23_runMade_9 : decode cX23_runMade 9 = .ok (.iaload, 1) := by decide +kernel
theorem eX23_runMade_10 : decode cX23_runMade 10 = .ok (.aaload, 1) := by decide +kernel
theorem eX23_runMade_11 : decode cX23_runMade 11 = .ok (.astore_n 2, 1) := by decide +kernel
theorem eX23_runMade_12 : decode cX23_runMade 12 = .ok (.aload_n 0, 1) := by decide +kernel
theorem eX23_runMade_13 : decode cX23_runMade 13 = .ok (.getfield 625, 3) := by decide +kernel
theorem eX23_runMade_16 : decode cX23_runMade 16 = .ok (.iload_n 1, 1) := by decide +kernel
theorem eX23_runMade_17 : decode cX23_runMade 17 = .ok (.iaload, 1) := by decide +kernel
theorem eX23_runMade_18 : decode cX23_runMade 18 = .ok (.bipush 8, 2) := by decide +kernel
theorem eX23_runMade_20 : decode cX23_runMade 20 = .ok (.if_icmp .ne 32, 3) := by decide +kernel
theorem eX23_runMade_23 : decode cX23_runMade 23 = .ok (.aload_n 0, 1) := by decide +kernel
theorem eX23_runMade_24 : decode cX23_runMade 24 = .ok (.aload_n 0, 1) := by decide +kernel
theorem eX23_runMade_25 : decode cX23_runMade 25 = .ok (.aload_n 2, 1) := by decide +kernel
theorem eX23_runMade_26 : decode cX23_runMade 26 = .ok (.getfield 175, 3) := by decide +kernel
theorem eX23_runMade_29 : decode cX23_runMade 29 = .ok (.aload_n 0, 1) := by decide +kernel
theorem eX23_runMade_30 : decode cX23_runMade 30 = .ok (.getfield 638, 3) := by decide +kernel
theorem eX23_runMade_33 : decode cX23_runMade 33 = .ok (.iload_n 1, 1) := by decide +kernel
theorem eX23_runMade_34 : decode cX23_runMade 34 = .ok (.laload, 1) := by decide +kernel
theorem eX23_runMade_35 : decode cX23_runMade 35 = .ok (.l2i, 1) := by decide +kernel
theorem eX23_runMade_36 : decode cX23_runMade 36 = .ok (.aload_n 0, 1) := by decide +kernel
theorem eX23_runMade_37 : decode cX23_runMade 37 = .ok (.getfield 668, 3) := by decide +kernel
theorem eX23_runMade_40 : decode cX23_runMade 40 = .ok (.iload_n 1, 1) := by decide +kernel
theorem eX23_runMade_41 : decode cX23_runMade 41 = .ok (.aaload, 1) := by decide +kernel
theorem eX23_runMade_42 : decode cX23_runMade 42 = .ok (.invokevirtual 1116, 3) := by decide +kernel
theorem eX23_runMade_45 : decode cX23_runMade 45 = .ok (.i2l, 1) := by decide +kernel
theorem eX23_runMade_46 : decode cX23_runMade 46 = .ok (.invokevirtual 1019, 3) := by decide +kernel
theorem eX23_runMade_49 : decode cX23_runMade 49 = .ok (.goto 63, 3) := by decide +kernel
theorem eX23_runMade_52 : decode cX23_runMade 52 = .ok (.aload_n 0, 1) := by decide +kernel
theorem eX23_runMade_53 : decode cX23_runMade 53 = .ok (.aload_n 2, 1) := by decide +kernel
theorem eX23_runMade_54 : decode cX23_runMade 54 = .ok (.getfield 159, 3) := by decide +kernel
theorem eX23_runMade_57 : decode cX23_runMade 57 = .ok (.aload_n 0, 1) := by decide +kernel
theorem eX23_runMade_58 : decode cX23_runMade 58 = .ok (.getfield 632, 3) := by decide +kernel
theorem eX23_runMade_61 : decode cX23_runMade 61 = .ok (.iload_n 1, 1) := by decide +kernel
theorem eX23_runMade_62 : decode cX23_runMade 62 = .ok (.iaload, 1) := by decide +kernel
theorem eX23_runMade_63 : decode cX23_runMade 63 = .ok (.aaload, 1) := by decide +kernel
theorem eX23_runMade_64 : decode cX23_runMade 64 = .ok (.getfield 166, 3) := by decide +kernel
theorem eX23_runMade_67 : decode cX23_runMade 67 = .ok (.aload_n 0, 1) := by decide +kernel
theorem eX23_runMade_68 : decode cX23_runMade 68 = .ok (.getfield 638, 3) := by decide +kernel
theorem eX23_runMade_71 : decode cX23_runMade 71 = .ok (.iload_n 1, 1) := by decide +kernel
theorem eX23_runMade_72 : decode cX23_runMade 72 = .ok (.laload, 1) := by decide +kernel
theorem eX23_runMade_73 : decode cX23_runMade 73 = .ok (.l2i, 1) := by decide +kernel
theorem eX23_runMade_74 : decode cX23_runMade 74 = .ok (.aconst_null, 1) := by decide +kernel
theorem eX23_runMade_75 : decode cX23_runMade 75 = .ok (.invokevirtual 1116, 3) := by decide +kernel
theorem eX23_runMade_78 : decode cX23_runMade 78 = .ok (.istore_n 3, 1) := by decide +kernel
theorem eX23_runMade_79 : decode cX23_runMade 79 = .ok (.aload_n 0, 1) := by decide +kernel
theorem eX23_runMade_80 : decode cX23_runMade 80 = .ok (.invokevirtual 977, 3) := by decide +kernel
theorem eX23_runMade_83 : decode cX23_runMade 83 = .ok (.istore 4, 2) := by decide +kernel
theorem eX23_runMade_85 : decode cX23_runMade 85 = .ok (.aload_n 0, 1) := by decide +kernel
theorem eX23_runMade_86 : decode cX23_runMade 86 = .ok (.getfield 930, 3) := by decide +kernel
theorem eX23_runMade_89 : decode cX23_runMade 89 = .ok (.iload 4, 2) := by decide +kernel
theorem eX23_runMade_91 : decode cX23_runMade 91 = .ok (.iload_n 3, 1) := by decide +kernel
theorem eX23_runMade_92 : decode cX23_runMade 92 = .ok (.i2l, 1) := by decide +kernel
theorem eX23_runMade_93 : decode cX23_runMade 93 = .ok (.aload_n 0, 1) := by decide +kernel
theorem eX23_runMade_94 : decode cX23_runMade 94 = .ok (.getfield 632, 3) := by decide +kernel
theorem eX23_runMade_97 : decode cX23_runMade 97 = .ok (.iload_n 1, 1) := by decide +kernel
theorem eX23_runMade_98 : decode cX23_runMade 98 = .ok (.iaload, 1) := by decide +kernel
theorem eX23_runMade_99 : decode cX23_runMade 99 = .ok (.i2l, 1) := by decide +kernel
theorem eX23_runMade_100 : decode cX23_runMade 100 = .ok (.bipush 20, 2) := by decide +kernel
theorem eX23_runMade_102 : decode cX23_runMade 102 = .ok (.lshl, 1) := by decide +kernel
theorem eX23_runMade_103 : decode cX23_runMade 103 = .ok (.ladd, 1) := by decide +kernel
theorem eX23_runMade_104 : decode cX23_runMade 104 = .ok (.lastore, 1) := by decide +kernel
theorem eX23_runMade_105 : decode cX23_runMade 105 = .ok (.aload_n 0, 1) := by decide +kernel
theorem eX23_runMade_106 : decode cX23_runMade 106 = .ok (.iload 4, 2) := by decide +kernel
theorem eX23_runMade_108 : decode cX23_runMade 108 = .ok (.i2l, 1) := by decide +kernel
theorem eX23_runMade_109 : decode cX23_runMade 109 = .ok (.invokevirtual 1019, 3) := by decide +kernel
theorem eX23_runMade_112 : decode cX23_runMade 112 = .ok (.return_, 1) := by decide +kernel
theorem eX23_burn_0 : decode cX23_burn 0 = .ok (.aload_n 0, 1) := by decide +kernel
theorem eX23_burn_1 : decode cX23_burn 1 = .ok (.getfield 1093, 3) := by decide +kernel
theorem eX23_burn_4 : decode cX23_burn 4 = .ok (.ifCond .ne 12, 3) := by decide +kernel
theorem eX23_burn_7 : decode cX23_burn 7 = .ok (.aload_n 0, 1) := by decide +kernel
theorem eX23_burn_8 : decode cX23_burn 8 = .ok (.bipush 8, 2) := by decide +kernel
theorem eX23_burn_10 : decode cX23_burn 10 = .ok (.putfield 80, 3) := by decide +kernel
theorem eX23_burn_13 : decode cX23_burn 13 = .ok (.goto 13, 3) := by decide +kernel
theorem eX23_burn_16 : decode cX23_burn 16 = .ok (.aload_n 0, 1) := by decide +kernel
theorem eX23_burn_17 : decode cX23_burn 17 = .ok (.dup, 1) := by decide +kernel
theorem eX23_burn_18 : decode cX23_burn 18 = .ok (.getfield 1093, 3) := by decide +kernel
theorem eX23_burn_21 : decode cX23_burn 21 = .ok (.iconst 1, 1) := by decide +kernel
theorem eX23_burn_22 : decode cX23_burn 22 = .ok (.isub, 1) := by decide +kernel
theorem eX23_burn_23 : decode cX23_burn 23 = .ok (.putfield 1093, 3) := by decide +kernel
theorem eX23_burn_26 : decode cX23_burn 26 = .ok (.return_, 1) := by decide +kernel
theorem eX23_step_0 : decode cX23_step 0 = .ok (.aload_n 0, 1) := by decide +kernel
theorem eX23_step_1 : decode cX23_step 1 = .ok (.getfield 1096, 3) := by decide +kernel
theorem eX23_step_4 : decode cX23_step 4 = .ok (.istore_n 1, 1) := by decide +kernel
theorem eX23_step_5 : decode cX23_step 5 = .ok (.aload_n 0, 1) := by decide +kernel
theorem eX23_step_6 : decode cX23_step 6 = .ok (.dup, 1) := by decide +kernel
theorem eX23_step_7 : decode cX23_step 7 = .ok (.getfield 1096, 3) := by decide +kernel
theorem eX23_step_10 : decode cX23_step 10 = .ok (.iconst 1, 1) := by decide +kernel
theorem eX23_step_11 : decode cX23_step 11 = .ok (.iadd, 1) := by decide +kernel
theorem eX23_step_12 : decode cX23_step 12 = .ok (.putfield 1096, 3) := by decide +kernel
theorem eX23_step_15 : decode cX23_step 15 = .ok (.aload_n 0, 1) := by decide +kernel
theorem eX23_step_16 : decode cX23_step 16 = .ok (.getfield 625, 3) := by decide +kernel
theorem eX23_step_19 : decode cX23_step 19 = .ok (.iload_n 1, 1) := by decide +kernel
theorem eX23_step_20 : decode cX23_step 20 = .ok (.iaload, 1) := by decide +kernel
theorem eX23_step_21 : decode cX23_step 21 = .ok (.tableswitch 569 0 27 #[127, 134, 158, 166, 193, 206, 219, 226, 239, 239, 247, 255, 276, 311, 342, 350, 363, 376, 398, 398, 456, 456, 464, 477, 519, 569, 532, 147], 127) := by decide +kernel
theorem eX23_step_148 : decode cX23_step 148 = .ok (.aload_n 0, 1) := by decide +kernel
theorem eX23_step_149 : decode cX23_step 149 = .ok (.invokevirtual 1120, 3) := by decide +kernel
theorem eX23_step_152 : decode cX23_step 152 = .ok (.goto 438, 3) := by decide +kernel
theorem eX23_step_155 : decode cX23_step 155 = .ok (.aload_n 0, 1) := by decide +kernel
theorem eX23_step_156 : decode cX23_step 156 = .ok (.aload_n 0, 1) := by decide +kernel
theorem eX23_step_157 : decode cX23_step 157 = .ok (.getfield 638, 3) := by decide +kernel
theorem eX23_step_160 : decode cX23_step 160 = .ok (.iload_n 1, 1) := by decide +kernel
theorem eX23_step_161 : decode cX23_step 161 = .ok (.laload, 1) := by decide +kernel
theorem eX23_step_162 : decode cX23_step 162 = .ok (.invokevirtual 1019, 3) := by decide +kernel
theorem eX23_step_165 : decode cX23_step 165 = .ok (.goto 425, 3) := by decide +kernel
theorem eX23_step_168 : decode cX23_step 168 = .ok (.aload_n 0, 1) := by decide +kernel
theorem eX23_step_169 : decode cX23_step 169 = .ok (.aload_n 0, 1) := by decide +kernel
theorem eX23_step_170 : decode cX23_step 170 = .ok (.invokevirtual 1123, 3) := by decide +kernel
theorem eX23_step_173 : decode cX23_step 173 = .ok (.invokevirtual 1019, 3) := by decide +kernel
theorem eX23_step_176 : decode cX23_step 176 = .ok (.goto 414, 3) := by decide +kernel
theorem eX23_step_179 : decode cX23_step 179 = .ok (.aload_n 0, 1) := by decide +kernel
theorem eX23_step_180 : decode cX23_step 180 = .ok (.iload_n 1, 1) := by decide +kernel
theorem eX23_step_181 : decode cX23_step 181 = .ok (.invokevirtual 1126, 3) := by decide +kernel
theorem eX23_step_184 : decode cX23_step 184 = .ok (.goto 406, 3) := by decide +kernel
theorem eX23_step_187 : decode cX23_step 187 = .ok (.aload_n 0, 1) := by decide +kernel
theorem eX23_step_188 : decode cX23_step 188 = .ok (.aload_n 0, 1) := by decide +kernel
theorem eX23_step_189 : decode cX23_step 189 = .ok (.aload_n 0, 1) := by decide +kernel
theorem eX23_step_190 : decode cX23_step 190 = .ok (.getfield 656, 3) := by decide +kernel
theorem eX23_step_193 : decode cX23_step 193 = .ok (.iload_n 1, 1) := by decide +kernel
theorem eX23_step_194 : decode cX23_step 194 = .ok (.aaload, 1) := by decide +kernel
theorem eX23_step_195 : decode cX23_step 195 = .ok (.aload_n 0, 1) := by decide +kernel
theorem eX23_step_196 : decode cX23_step 196 = .ok (.getfield 656, 3) := by decide +kernel
theorem eX23_step_199 : decode cX23_step 199 = .ok (.iload_n 1, 1) := by decide +kernel
theorem eX23_step_200 : decode cX23_step 200 = .ok (.aaload, 1) := by decide +kernel
theorem eX23_step_201 : decode cX23_step 201 = .ok (.getfield 711, 3) := by decide +kernel
theorem eX23_step_204 : decode cX23_step 204 = .ok (.invokevirtual 1083, 3) := by decide +kernel
theorem eX23_step_207 : decode cX23_step 207 = .ok (.i2l, 1) := by decide +kernel
theorem eX23_step_208 : decode cX23_step 208 = .ok (.invokevirtual 1019, 3) := by decide +kernel
theorem eX23_step_211 : decode cX23_step 211 = .ok (.goto 379, 3) := by decide +kernel
theorem eX23_step_214 : decode cX23_step 214 = .ok (.aload_n 0, 1) := by decide +kernel
theorem eX23_step_215 : decode cX23_step 215 = .ok (.aload_n 0, 1) := by decide +kernel
theorem eX23_step_216 : decode cX23_step 216 = .ok (.getfield 629, 3) := by decide +kernel
theorem eX23_step_219 : decode cX23_step 219 = .ok (.iload_n 1, 1) := by decide +kernel
theorem eX23_step_220 : decode cX23_step 220 = .ok (.iaload, 1) := by decide +kernel
theorem eX23_step_221 : decode cX23_step 221 = .ok (.invokevirtual 1129, 3) := by decide +kernel
theorem eX23_step_224 : decode cX23_step 224 = .ok (.goto 366, 3) := by decide +kernel
theorem eX23_step_227 : decode cX23_step 227 = .ok (.aload_n 0, 1) := by decide +kernel
theorem eX23_step_228 : decode cX23_step 228 = .ok (.lconst 1, 1) := by decide +kernel
theorem eX23_step_229 : decode cX23_step 229 = .ok (.aload_n 0, 1) := by decide +kernel
theorem eX23_step_230 : decode cX23_step 230 = .ok (.invokevirtual 1011, 3) := by decide +kernel
theorem eX23_step_233 : decode cX23_step 233 = .ok (.lsub, 1) := by decide +kernel
theorem eX23_step_234 : decode cX23_step 234 = .ok (.invokevirtual 1019, 3) := by decide +kernel
theorem eX23_step_237 : decode cX23_step 237 = .ok (.goto 353, 3) := by decide +kernel
theorem eX23_step_240 : decode cX23_step 240 = .ok (.aload_n 0, 1) := by decide +kernel
theorem eX23_step_241 : decode cX23_step 241 = .ok (.invokevirtual 1132, 3) := by decide +kernel
theorem eX23_step_244 : decode cX23_step 244 = .ok (.goto 346, 3) := by decide +kernel
theorem eX23_step_247 : decode cX23_step 247 = .ok (.aload_n 0, 1) := by decide +kernel
theorem eX23_step_248 : decode cX23_step 248 = .ok (.aload_n 0, 1) := by decide +kernel
theorem eX23_step_249 : decode cX23_step 249 = .ok (.getfield 660, 3) := by decide +kernel
theorem eX23_step_252 : decode cX23_step 252 = .ok (.iload_n 1, 1) := by decide +kernel
theorem eX23_step_253 : decode cX23_step 253 = .ok (.aaload, 1) := by decide +kernel
theorem eX23_step_254 : decode cX23_step 254 = .ok (.invokevirtual 1135, 3) := by decide +kernel
theorem eX23_step_257 : decode cX23_step 257 = .ok (.goto 333, 3) := by decide +kernel
theorem eX23_step_260 : decode cX23_step 260 = .ok (.aload_n 0, 1) := by decide +kernel
theorem eX23_step_261 : decode cX23_step 261 = .ok (.iload_n 1, 1) := by decide +kernel
theorem eX23_step_262 : decode cX23_step 262 = .ok (.invokevirtual 1139, 3) := by decide +kernel
theorem eX23_step_265 : decode cX23_step 265 = .ok (.goto 325, 3) := by decide +kernel
theorem eX23_step_268 : decode cX23_step 268 = .ok (.aload_n 0, 1) := by decide +kernel
theorem eX23_step_269 : decode cX23_step 269 = .ok (.iload_n 1, 1) := by decide +kernel
theorem eX23_step_270 : decode cX23_step 270 = .ok (.invokevirtual 1142, 3) := by decide +kernel
theorem eX23_step_273 : decode cX23_step 273 = .ok (.goto 317, 3) := by decide +kernel
theorem eX23_step_276 : decode cX23_step 276 = .ok (.aload_n 0, 1) := by decide +kernel
theorem eX23_step_277 : decode cX23_step 277 = .ok (.aload_n 0, 1) := by decide +kernel
theorem eX23_step_278 : decode cX23_step 278 = .ok (.getfield 660, 3) := by decide +kernel
theorem eX23_step_281 : decode cX23_step 281 = .ok (.iload_n 1, 1) := by decide +kernel
theorem eX23_step_282 : decode cX23_step 282 = .ok (.aaload, 1) := by decide +kernel
theorem eX23_step_283 : decode cX23_step 283 = .ok (.aload_n 0, 1) := by decide +kernel
theorem eX23_step_284 : decode cX23_step 284 = .ok (.invokevirtual 1011, 3) := by decide +kernel
theorem eX23_step_287 : decode cX23_step 287 = .ok (.invokevirtual 1047, 3) := by decide +kernel
theorem eX23_step_290 : decode cX23_step 290 = .ok (.aload_n 0, 1) := by decide +kernel
theorem eX23_step_291 : decode cX23_step 291 = .ok (.invokevirtual 1099, 3) := by decide +kernel
theorem eX23_step_294 : decode cX23_step 294 = .ok (.goto 296, 3) := by decide +kernel
theorem eX23_step_297 : decode cX23_step 297 = .ok (.aload_n 0, 1) := by decide +kernel
theorem eX23_step_298 : decode cX23_step 298 = .ok (.getfield 945, 3) := by decide +kernel
theorem eX23_step_301 : decode cX23_step 301 = .ok (.aload_n 0, 1) := by decide +kernel
theorem eX23_step_302 : decode cX23_step 302 = .ok (.aload_n 0, 1) := by decide +kernel
theorem eX23_step_303 : decode cX23_step 303 = .ok (.getfield 663, 3) := by decide +kernel
theorem eX23_step_306 : decode cX23_step 306 = .ok (.iload_n 1, 1) := by decide +kernel
theorem eX23_step_307 : decode cX23_step 307 = .ok (.aaload, 1) := by decide +kernel
theorem eX23_step_308 : decode cX23_step 308 = .ok (.invokevirtual 1079, 3) := by decide +kernel
theorem eX23_step_311 : decode cX23_step 311 = .ok (.aload_n 0, 1) := by decide +kernel
theorem eX23_step_312 : decode cX23_step 312 = .ok (.aload_n 0, 1) := by decide +kernel
theorem eX23_step_313 : decode cX23_step 313 = .ok (.getfield 663, 3) := by decide +kernel
theorem eX23_step_316 : decode cX23_step 316 = .ok (.iload_n 1, 1) := by decide +kernel
theorem eX23_step_317 : decode cX23_step 317 = .ok (.aaload, 1) := by decide +kernel
theorem eX23_step_318 : decode cX23_step 318 = .ok (.getfield 471, 3) := by decide +kernel
theorem eX23_step_321 : decode cX23_step 321 = .ok (.aload_n 0, 1) := by decide +kernel
theorem eX23_step_322 : decode cX23_step 322 = .ok (.invokevirtual 1011, 3) := by decide +kernel
theorem eX23_step_325 : decode cX23_step 325 = .ok (.invokevirtual 1015, 3) := by decide +kernel
theorem eX23_step_328 : decode cX23_step 328 = .ok (.iastore, 1) := by decide +kernel
theorem eX23_step_329 : decode cX23_step 329 = .ok (.goto 261, 3) := by decide +kernel
theorem eX23_step_332 : decode cX23_step 332 = .ok (.aload_n 0, 1) := by decide +kernel
theorem eX23_step_333 : decode cX23_step 333 = .ok (.getfield 945, 3) := by decide +kernel
theorem eX23_step_336 : decode cX23_step 336 = .ok (.aload_n 0, 1) := by decide +kernel
theorem eX23_step_337 : decode cX23_step 337 = .ok (.aload_n 0, 1) := by decide +kernel
theorem eX23_step_338 : decode cX23_step 338 = .ok (.getfield 663, 3) := by decide +kernel
theorem eX23_step_341 : decode cX23_step 341 = .ok (.iload_n 1, 1) := by decide +kernel
theorem eX23_step_342 : decode cX23_step 342 = .ok (.aaload, 1) := by decide +kernel
theorem eX23_step_343 : decode cX23_step 343 = .ok (.invokevirtual 1079, 3) := by decide +kernel
theorem eX23_step_346 : decode cX23_step 346 = .ok (.aload_n 0, 1) := by decide +kernel
theorem eX23_step_347 : decode cX23_step 347 = .ok (.aload_n 0, 1) := by decide +kernel
theorem eX23_step_348 : decode cX23_step 348 = .ok (.getfield 663, 3) := by decide +kernel
theorem eX23_step_351 : decode cX23_step 351 = .ok (.iload_n 1, 1) := by decide +kernel
theorem eX23_step_352 : decode cX23_step 352 = .ok (.aaload, 1) := by decide +kernel
theorem eX23_step_353 : decode cX23_step 353 = .ok (.getfield 471, 3) := by decide +kernel
theorem eX23_step_356 : decode cX23_step 356 = .ok (.invokevirtual 989, 3) := by decide +kernel
theorem eX23_step_359 : decode cX23_step 359 = .ok (.iastore, 1) := by decide +kernel
theorem eX23_step_360 : decode cX23_step 360 = .ok (.goto 230, 3) := by decide +kernel
theorem eX23_step_363 : decode cX23_step 363 = .ok (.aload_n 0, 1) := by decide +kernel
theorem eX23_step_364 : decode cX23_step 364 = .ok (.iload_n 1, 1) := by decide +kernel
theorem eX23_step_365 : decode cX23_step 365 = .ok (.invokevirtual 1145, 3) := by decide +kernel
theorem eX23_step_368 : decode cX23_step 368 = .ok (.goto 222, 3) := by decide +kernel
theorem eX23_step_371 : decode cX23_step 371 = .ok (.aload_n 0, 1) := by decide +kernel
theorem eX23_step_372 : decode cX23_step 372 = .ok (.aload_n 0, 1) := by decide +kernel
theorem eX23_step_373 : decode cX23_step 373 = .ok (.getfield 660, 3) := by decide +kernel
theorem eX23_step_376 : decode cX23_step 376 = .ok (.iload_n 1, 1) := by decide +kernel
theorem eX23_step_377 : decode cX23_step 377 = .ok (.aaload, 1) := by decide +kernel
theorem eX23_step_378 : decode cX23_step 378 = .ok (.invokevirtual 1148, 3) := by decide +kernel
theorem eX23_step_381 : decode cX23_step 381 = .ok (.goto 209, 3) := by decide +kernel
theorem eX23_step_384 : decode cX23_step 384 = .ok (.aload_n 0, 1) := by decide +kernel
theorem eX23_step_385 : decode cX23_step 385 = .ok (.aload_n 0, 1) := by decide +kernel
theorem eX23_step_386 : decode cX23_step 386 = .ok (.getfield 635, 3) := by decide +kernel
theorem eX23_step_389 : decode cX23_step 389 = .ok (.iload_n 1, 1) := by decide +kernel
theorem eX23_step_390 : decode cX23_step 390 = .ok (.iaload, 1) := by decide +kernel
theorem eX23_step_391 : decode cX23_step 391 = .ok (.putfield 1096, 3) := by decide +kernel
theorem eX23_step_394 : decode cX23_step 394 = .ok (.goto 196, 3) := by decide +kernel
theorem eX23_step_397 : decode cX23_step 397 = .ok (.aload_n 0, 1) := by decide +kernel
theorem eX23_step_398 : decode cX23_step 398 = .ok (.invokevirtual 1011, 3) := by decide +kernel
theorem eX23_step_401 : decode cX23_step 401 = .ok (.lconst 0, 1) := by decide +kernel
theorem eX23_step_402 : decode cX23_step 402 = .ok (.lcmp, 1) := by decide +kernel
theorem eX23_step_403 : decode cX23_step 403 = .ok (.ifCond .ne 187, 3) := by decide +kernel
theorem eX23_step_406 : decode cX23_step 406 = .ok (.aload_n 0, 1) := by decide +kernel
theorem eX23_step_407 : decode cX23_step 407 = .ok (.aload_n 0, 1) := by decide +kernel
theorem eX23_step_408 : decode cX23_step 408 = .ok (.getfield 635, 3) := by decide +kernel
theorem eX23_step_411 : decode cX23_step 411 = .ok (.iload_n 1, 1) := by decide +kernel
theorem eX23_step_412 : decode cX23_step 412 = .ok (.iaload, 1) := by decide +kernel
theorem eX23_step_413 : decode cX23_step 413 = .ok (.putfield 1096, 3) := by decide +kernel
theorem eX23_step_416 : decode cX23_step 416 = .ok (.goto 174, 3) := by decide +kernel
theorem eX23_step_419 : decode cX23_step 419 = .ok (.aload_n 0, 1) := by decide +kernel
theorem eX23_step_420 : decode cX23_step 420 = .ok (.getfield 942, 3) := by decide +kernel
theorem eX23_step_423 : decode cX23_step 423 = .ok (.aload_n 0, 1) := by decide +kernel
theorem eX23_step_424 : decode cX23_step 424 = .ok (.getfield 1073, 3) := by decide +kernel
theorem eX23_step_427 : decode cX23_step 427 = .ok (.iconst 1, 1) := by decide +kernel
theorem eX23_step_428 : decode cX23_step 428 = .ok (.isub, 1) := by decide +kernel
theorem eX23_step_429 : decode cX23_step 429 = .ok (.laload, 1) := by decide +kernel
theorem eX23_step_430 : decode cX23_step 430 = .ok (.aload_n 0, 1) := by decide +kernel
theorem eX23_step_431 : decode cX23_step 431 = .ok (.getfield 625, 3) := by decide +kernel
theorem eX23_step_434 : decode cX23_step 434 = .ok (.iload_n 1, 1) := by decide +kernel
theorem eX23_step_435 : decode cX23_step 435 = .ok (.iaload, 1) := by decide +kernel
theorem eX23_step_436 : decode cX23_step 436 = .ok (.bipush 19, 2) := by decide +kernel
theorem eX23_step_438 : decode cX23_step 438 = .ok (.if_icmp .ne 7, 3) := by decide +kernel
theorem eX23_step_441 : decode cX23_step 441 = .ok (.iconst 1, 1) := by decide +kernel
theorem eX23_step_442 : decode cX23_step 442 = .ok (.goto 4, 3) := by decide +kernel
theorem eX23_step_445 : decode cX23_step 445 = .ok (.iconst 0, 1) := by decide +kernel
theorem eX23_step_446 : decode cX23_step 446 = .ok (.i2l, 1) := by decide +kernel
theorem eX23_step_447 : decode cX23_step 447 = .ok (.lcmp, 1) := by decide +kernel
theorem eX23_step_448 : decode cX23_step 448 = .ok (.ifCond .ne 16, 3) := by decide +kernel
theorem eX23_step_451 : decode cX23_step 451 = .ok (.aload_n 0, 1) := by decide +kernel
theorem eX23_step_452 : decode cX23_step 452 = .ok (.aload_n 0, 1) := by decide +kernel
theorem eX23_step_453 : decode cX23_step 453 = .ok (.getfield 635, 3) := by decide +kernel
theorem eX23_step_456 : decode cX23_step 456 = .ok (.iload_n 1, 1) := by decide +kernel
theorem eX23_step_457 : decode cX23_step 457 = .ok (.iaload, 1) := by decide +kernel
theorem eX23_step_458 : decode cX23_step 458 = .ok (.putfield 1096, 3) := by decide +kernel
theorem eX23_step_461 : decode cX23_step 461 = .ok (.goto 129, 3) := by decide +kernel
theorem eX23_step_464 : decode cX23_step 464 = .ok (.aload_n 0, 1) := by decide +kernel
theorem eX23_step_465 : decode cX23_step 465 = .ok (.dup, 1) := by decide +kernel
theorem eX23_step_466 : decode cX23_step 466 = .ok (.getfield 1073, 3) := by decide +kernel
theorem eX23_step_469 : decode cX23_step 469 = .ok (.iconst 1, 1) := by decide +kernel
theorem eX23_step_470 : decode cX23_step 470 = .ok (.isub, 1) := by decide +kernel
theorem eX23_step_471 : decode cX23_step 471 = .ok (.putfield 1073, 3) := by decide +kernel
theorem eX23_step_474 : decode cX23_step 474 = .ok (.goto 116, 3) := by decide +kernel
theorem eX23_step_477 : decode cX23_step 477 = .ok (.aload_n 0, 1) := by decide +kernel
theorem eX23_step_478 : decode cX23_step 478 = .ok (.iload_n 1, 1) := by decide +kernel
theorem eX23_step_479 : decode cX23_step 479 = .ok (.invokevirtual 1151, 3) := by decide +kernel
theorem eX23_step_482 : decode cX23_step 482 = .ok (.goto 108, 3) := by decide +kernel
theorem eX23_step_485 : decode cX23_step 485 = .ok (.aload_n 0, 1) := by decide +kernel
theorem eX23_step_486 : decode cX23_step 486 = .ok (.aload_n 0, 1) := by decide +kernel
theorem eX23_step_487 : decode cX23_step 487 = .ok (.getfield 665, 3) := by decide +kernel
theorem eX23_step_490 : decode cX23_step 490 = .ok (.iload_n 1, 1) := by decide +kernel
theorem eX23_step_491 : decode cX23_step 491 = .ok (.aaload, 1) := by decide +kernel
theorem eX23_step_492 : decode cX23_step 492 = .ok (.invokevirtual 1154, 3) := by decide +kernel
theorem eX23_step_495 : decode cX23_step 495 = .ok (.goto 95, 3) := by decide +kernel
theorem eX23_step_498 : decode cX23_step 498 = .ok (.aload_n 0, 1) := by decide +kernel
theorem eX23_step_499 : decode cX23_step 499 = .ok (.getfield 945, 3) := by decide +kernel
theorem eX23_step_502 : decode cX23_step 502 = .ok (.aload_n 0, 1) := by decide +kernel
theorem eX23_step_503 : decode cX23_step 503 = .ok (.aload_n 0, 1) := by decide +kernel
theorem eX23_step_504 : decode cX23_step 504 = .ok (.getfield 663, 3) := by decide +kernel
theorem eX23_step_507 : decode cX23_step 507 = .ok (.iload_n 1, 1) := by decide +kernel
theorem eX23_step_508 : decode cX23_step 508 = .ok (.aaload, 1) := by decide +kernel
theorem eX23_step_509 : decode cX23_step 509 = .ok (.invokevirtual 1079, 3) := by decide +kernel
theorem eX23_step_512 : decode cX23_step 512 = .ok (.aload_n 0, 1) := by decide +kernel
theorem eX23_step_513 : decode cX23_step 513 = .ok (.aload_n 0, 1) := by decide +kernel
theorem eX23_step_514 : decode cX23_step 514 = .ok (.aload_n 0, 1) := by decide +kernel
theorem eX23_step_515 : decode cX23_step 515 = .ok (.getfield 656, 3) := by decide +kernel
theorem eX23_step_518 : decode cX23_step 518 = .ok (.iload_n 1, 1) := by decide +kernel
theorem eX23_step_519 : decode cX23_step 519 = .ok (.aaload, 1) := by decide +kernel
theorem eX23_step_520 : decode cX23_step 520 = .ok (.aload_n 0, 1) := by decide +kernel
theorem eX23_step_521 : decode cX23_step 521 = .ok (.getfield 656, 3) := by decide +kernel
theorem eX23_step_524 : decode cX23_step 524 = .ok (.iload_n 1, 1) := by decide +kernel
theorem eX23_step_525 : decode cX23_step 525 = .ok (.aaload, 1) := by decide +kernel
theorem eX23_step_526 : decode cX23_step 526 = .ok (.getfield 711, 3) := by decide +kernel
theorem eX23_step_529 : decode cX23_step 529 = .ok (.invokevirtual 1083, 3) := by decide +kernel
theorem eX23_step_532 : decode cX23_step 532 = .ok (.i2l, 1) := by decide +kernel
theorem eX23_step_533 : decode cX23_step 533 = .ok (.invokevirtual 992, 3) := by decide +kernel
theorem eX23_step_536 : decode cX23_step 536 = .ok (.iastore, 1) := by decide +kernel
theorem eX23_step_537 : decode cX23_step 537 = .ok (.goto 53, 3) := by decide +kernel
theorem eX23_step_540 : decode cX23_step 540 = .ok (.aload_n 0, 1) := by decide +kernel
theorem eX23_step_541 : decode cX23_step 541 = .ok (.aload_n 0, 1) := by decide +kernel
theorem eX23_step_542 : decode cX23_step 542 = .ok (.getfield 663, 3) := by decide +kernel
theorem eX23_step_545 : decode cX23_step 545 = .ok (.iload_n 1, 1) := by decide +kernel
theorem eX23_step_546 : decode cX23_step 546 = .ok (.aaload, 1) := by decide +kernel
theorem eX23_step_547 : decode cX23_step 547 = .ok (.invokevirtual 1158, 3) := by decide +kernel
theorem eX23_step_550 : decode cX23_step 550 = .ok (.goto 40, 3) := by decide +kernel
theorem eX23_step_553 : decode cX23_step 553 = .ok (.aload_n 0, 1) := by decide +kernel
theorem eX23_step_554 : decode cX23_step 554 = .ok (.dup, 1) := by decide +kernel
theorem eX23_step_555 : decode cX23_step 555 = .ok (.getfield 1076, 3) := by decide +kernel
theorem eX23_step_558 : decode cX23_step 558 = .ok (.iconst 1, 1) := by decide +kernel
theorem eX23_step_559 : decode cX23_step 559 = .ok (.isub, 1) := by decide +kernel
theorem eX23_step_560 : decode cX23_step 560 = .ok (.putfield 1076, 3) := by decide +kernel
theorem eX23_step_563 : decode cX23_step 563 = .ok (.aload_n 0, 1) := by decide +kernel
theorem eX23_step_564 : decode cX23_step 564 = .ok (.aload_n 0, 1) := by decide +kernel
theorem eX23_step_565 : decode cX23_step 565 = .ok (.getfield 1076, 3) := by decide +kernel
theorem eX23_step_568 : decode cX23_step 568 = .ok (.ifCond .le 15, 3) := by decide +kernel
theorem eX23_step_571 : decode cX23_step 571 = .ok (.aload_n 0, 1) := by decide +kernel
theorem eX23_step_572 : decode cX23_step 572 = .ok (.getfield 947, 3) := by decide +kernel
theorem eX23_step_575 : decode cX23_step 575 = .ok (.aload_n 0, 1) := by decide +kernel
theorem eX23_step_576 : decode cX23_step 576 = .ok (.getfield 1076, 3) := by decide +kernel
theorem eX23_step_579 : decode cX23_step 579 = .ok (.iaload, 1) := by decide +kernel
theorem eX23_step_580 : decode cX23_step 580 = .ok (.goto 4, 3) := by decide +kernel
theorem eX23_step_583 : decode cX23_step 583 = .ok (.iconst (-1), 1) := by decide +kernel
theorem eX23_step_584 : decode cX23_step 584 = .ok (.putfield 1096, 3) := by decide +kernel
theorem eX23_step_587 : decode cX23_step 587 = .ok (.goto 3, 3) := by decide +kernel
theorem eX23_step_590 : decode cX23_step 590 = .ok (.return_, 1) := by decide +kernel
theorem eX23_runMain_0 : decode cX23_runMain 0 = .ok (.aload_n 0, 1) := by decide +kernel
theorem eX23_runMain_1 : decode cX23_runMain 1 = .ok (.iconst 0, 1) := by decide +kernel
theorem eX23_runMain_2 : decode cX23_runMain 2 = .ok (.putfield 974, 3) := by decide +kernel
theorem eX23_runMain_5 : decode cX23_runMain 5 = .ok (.aload_n 0, 1) := by decide +kernel
theorem eX23_runMain_6 : decode cX23_runMain 6 = .ok (.iconst 0, 1) := by decide +kernel
theorem eX23_runMain_7 : decode cX23_runMain 7 = .ok (.putfield 971, 3) := by decide +kernel
theorem eX23_runMain_10 : decode cX23_runMain 10 = .ok (.aload_n 0, 1) := by decide +kernel
theorem eX23_runMain_11 : decode cX23_runMain 11 = .ok (.iconst 0, 1) := by decide +kernel
theorem eX23_runMain_12 : decode cX23_runMain 12 = .ok (.putfield 1073, 3) := by decide +kernel
theorem eX23_runMain_15 : decode cX23_runMain 15 = .ok (.aload_n 0, 1) := by decide +kernel
theorem eX23_runMain_16 : decode cX23_runMain 16 = .ok (.iconst 0, 1) := by decide +kernel
theorem eX23_runMain_17 : decode cX23_runMain 17 = .ok (.putfield 1023, 3) := by decide +kernel
theorem eX23_runMain_20 : decode cX23_runMain 20 = .ok (.aload_n 0, 1) := by decide +kernel
theorem eX23_runMain_21 : decode cX23_runMain 21 = .ok (.iconst 0, 1) := by decide +kernel
theorem eX23_runMain_22 : decode cX23_runMain 22 = .ok (.putfield 1076, 3) := by decide +kernel
theorem eX23_runMain_25 : decode cX23_runMain 25 = .ok (.iconst 0, 1) := by decide +kernel
theorem eX23_runMain_26 : decode cX23_runMain 26 = .ok (.istore_n 1, 1) := by decide +kernel
theorem eX23_runMain_27 : decode cX23_runMain 27 = .ok (.iload_n 1, 1) := by decide +kernel
theorem eX23_runMain_28 : decode cX23_runMain 28 = .ok (.aload_n 0, 1) := by decide +kernel
theorem eX23_runMain_29 : decode cX23_runMain 29 = .ok (.getfield 968, 3) := by decide +kernel
theorem eX23_runMain_32 : decode cX23_runMain 32 = .ok (.if_icmp .ge 16, 3) := by decide +kernel
theorem eX23_runMain_35 : decode cX23_runMain 35 = .ok (.aload_n 0, 1) := by decide +kernel
theorem eX23_runMain_36 : decode cX23_runMain 36 = .ok (.getfield 939, 3) := by decide +kernel
theorem eX23_runMain_39 : decode cX23_runMain 39 = .ok (.iload_n 1, 1) := by decide +kernel
theorem eX23_runMain_40 : decode cX23_runMain 40 = .ok (.iconst 0, 1) := by decide +kernel
theorem eX23_runMain_41 : decode cX23_runMain 41 = .ok (.bastore, 1) := by decide +kernel
theorem eX23_runMain_42 : decode cX23_runMain 42 = .ok (.iinc 1 1, 3) := by decide +kernel
theorem eX23_runMain_45 : decode cX23_runMain 45 = .ok (.goto (-18), 3) := by decide +kernel
theorem eX23_runMain_48 : decode cX23_runMain 48 = .ok (.aload_n 0, 1) := by decide +kernel
theorem eX23_runMain_49 : decode cX23_runMain 49 = .ok (.invokevirtual 1120, 3) := by decide +kernel
theorem eX23_runMain_52 : decode cX23_runMain 52 = .ok (.aload_n 0, 1) := by decide +kernel
theorem eX23_runMain_53 : decode cX23_runMain 53 = .ok (.invokevirtual 89, 3) := by decide +kernel
theorem eX23_runMain_56 : decode cX23_runMain 56 = .ok (.ifCond .ne 4, 3) := by decide +kernel
theorem eX23_runMain_59 : decode cX23_runMain 59 = .ok (.return_, 1) := by decide +kernel
theorem eX23_runMain_60 : decode cX23_runMain 60 = .ok (.aload_n 0, 1) := by decide +kernel
theorem eX23_runMain_61 : decode cX23_runMain 61 = .ok (.iconst 1, 1) := by decide +kernel
theorem eX23_runMain_62 : decode cX23_runMain 62 = .ok (.putfield 1076, 3) := by decide +kernel
theorem eX23_runMain_65 : decode cX23_runMain 65 = .ok (.aload_n 0, 1) := by decide +kernel
theorem eX23_runMain_66 : decode cX23_runMain 66 = .ok (.aload_n 0, 1) := by decide +kernel
theorem eX23_runMain_67 : decode cX23_runMain 67 = .ok (.getfield 232, 3) := by decide +kernel
theorem eX23_runMain_70 : decode cX23_runMain 70 = .ok (.aload_n 0, 1) := by decide +kernel
theorem eX23_runMain_71 : decode cX23_runMain 71 = .ok (.getfield 459, 3) := by decide +kernel
theorem eX23_runMain_74 : decode cX23_runMain 74 = .ok (.aaload, 1) := by decide +kernel
theorem eX23_runMain_75 : decode cX23_runMain 75 = .ok (.getfield 807, 3) := by decide +kernel
theorem eX23_runMain_78 : decode cX23_runMain 78 = .ok (.putfield 1096, 3) := by decide +kernel
theorem eX23_runMain_81 : decode cX23_runMain 81 = .ok (.aload_n 0, 1) := by decide +kernel
theorem eX23_runMain_82 : decode cX23_runMain 82 = .ok (.getfield 1096, 3) := by decide +kernel
theorem eX23_runMain_85 : decode cX23_runMain 85 = .ok (.ifCond .lt 17, 3) := by decide +kernel
theorem eX23_runMain_88 : decode cX23_runMain 88 = .ok (.aload_n 0, 1) := by decide +kernel
theorem eX23_runMain_89 : decode cX23_runMain 89 = .ok (.invokevirtual 89, 3) := by decide +kernel
theorem eX23_runMain_92 : decode cX23_runMain 92 = .ok (.ifCond .eq 10, 3) := by decide +kernel
theorem eX23_runMain_95 : decode cX23_runMain 95 = .ok (.aload_n 0, 1) := by decide +kernel
theorem eX23_runMain_96 : decode cX23_runMain 96 = .ok (.invokevirtual 1161, 3) := by decide +kernel
theorem eX23_runMain_99 : decode cX23_runMain 99 = .ok (.goto (-18), 3) := by decide +kernel
theorem eX23_runMain_102 : decode cX23_runMain 102 = .ok (.return_, 1) := by decide +kernel
theorem eX23_feedWord_0 : decode cX23_feedWord 0 = .ok (.bipush 24, 2) := by decide +kernel
theorem eX23_feedWord_2 : decode cX23_feedWord 2 = .ok (.istore_n 2, 1) := by decide +kernel
theorem eX23_feedWord_3 : decode cX23_feedWord 3 = .ok (.iload_n 2, 1) := by decide +kernel
theorem eX23_feedWord_4 : decode cX23_feedWord 4 = .ok (.ifCond .lt 35, 3) := by decide +kernel
theorem eX23_feedWord_7 : decode cX23_feedWord 7 = .ok (.aload_n 0, 1) := by decide +kernel
theorem eX23_feedWord_8 : decode cX23_feedWord 8 = .ok (.getfield 7, 3) := by decide +kernel
theorem eX23_feedWord_11 : decode cX23_feedWord 11 = .ok (.aload_n 0, 1) := by decide +kernel
theorem eX23_feedWord_12 : decode cX23_feedWord 12 = .ok (.getfield 1167, 3) := by decide +kernel
theorem eX23_feedWord_15 : decode cX23_feedWord 15 = .ok (.iload_n 1, 1) := by decide +kernel
theorem eX23_feedWord_16 : decode cX23_feedWord 16 = .ok (.iload_n 2, 1) := by decide +kernel
theorem eX23_feedWord_17 : decode cX23_feedWord 17 = .ok (.ishr, 1) := by decide +kernel
theorem eX23_feedWord_18 : decode cX23_feedWord 18 = .ok (.sipush 255, 3) := by decide +kernel
theorem eX23_feedWord_21 : decode cX23_feedWord 21 = .ok (.iand, 1) := by decide +kernel
theorem eX23_feedWord_22 : decode cX23_feedWord 22 = .ok (.iastore, 1) := by decide +kernel
theorem eX23_feedWord_23 : decode cX23_feedWord 23 = .ok (.aload_n 0, 1) := by decide +kernel
theorem eX23_feedWord_24 : decode cX23_feedWord 24 = .ok (.dup, 1) := by decide +kernel
theorem eX23_feedWord_25 : decode cX23_feedWord 25 = .ok (.getfield 1167, 3) := by decide +kernel
theorem eX23_feedWord_28 : decode cX23_feedWord 28 = .ok (.iconst 1, 1) := by decide +kernel
theorem eX23_feedWord_29 : decode cX23_feedWord 29 = .ok (.iadd, 1) := by decide +kernel
theorem eX23_feedWord_30 : decode cX23_feedWord 30 = .ok (.putfield 1167, 3) := by decide +kernel
theorem eX23_feedWord_33 : decode cX23_feedWord 33 = .ok (.iinc 2 (-8), 3) := by decide +kernel
theorem eX23_feedWord_36 : decode cX23_feedWord 36 = .ok (.goto (-33), 3) := by decide +kernel
theorem eX23_feedWord_39 : decode cX23_feedWord 39 = .ok (.return_, 1) := by decide +kernel
theorem eX23_feed_0 : decode cX23_feed 0 = .ok (.aload_n 0, 1) := by decide +kernel
theorem eX23_feed_1 : decode cX23_feed 1 = .ok (.getfield 1167, 3) := by decide +kernel
theorem eX23_feed_4 : decode cX23_feed 4 = .ok (.bipush 20, 2) := by decide +kernel
theorem eX23_feed_6 : decode cX23_feed 6 = .ok (.iadd, 1) := by decide +kernel
theorem eX23_feed_7 : decode cX23_feed 7 = .ok (.sipush 3000, 3) := by decide +kernel
theorem eX23_feed_10 : decode cX23_feed 10 = .ok (.if_icmp .le 5, 3) := by decide +kernel
theorem eX23_feed_13 : decode cX23_feed 13 = .ok (.iconst 0, 1) := by decide +kernel
theorem eX23_feed_14 : decode cX23_feed 14 = .ok (.ireturn, 1) := by decide +kernel
theorem eX23_feed_15 : decode cX23_feed 15 = .ok (.aload_n 0, 1) := by decide +kernel
theorem eX23_feed_16 : decode cX23_feed 16 = .ok (.iload_n 1, 1) := by decide +kernel
theorem eX23_feed_17 : decode cX23_feed 17 = .ok (.invokevirtual 1170, 3) := by decide +kernel
theorem eX23_feed_20 : decode cX23_feed 20 = .ok (.aload_n 0, 1) := by decide +kernel
theorem eX23_feed_21 : decode cX23_feed 21 = .ok (.iload_n 2, 1) := by decide +kernel
theorem eX23_feed_22 : decode cX23_feed 22 = .ok (.invokevirtual 1170, 3) := by decide +kernel
theorem eX23_feed_25 : decode cX23_feed 25 = .ok (.aload_n 0, 1) := by decide +kernel
theorem eX23_feed_26 : decode cX23_feed 26 = .ok (.iload_n 3, 1) := by decide +kernel
theorem eX23_feed_27 : decode cX23_feed 27 = .ok (.invokevirtual 1170, 3) := by decide +kernel
theorem eX23_feed_30 : decode cX23_feed 30 = .ok (.aload_n 0, 1) := by decide +kernel
theorem eX23_feed_31 : decode cX23_feed 31 = .ok (.iload 4, 2) := by decide +kernel
theorem eX23_feed_33 : decode cX23_feed 33 = .ok (.invokevirtual 1170, 3) := by decide +kernel
theorem eX23_feed_36 : decode cX23_feed 36 = .ok (.aload_n 0, 1) := by decide +kernel
theorem eX23_feed_37 : decode cX23_feed 37 = .ok (.iload 5, 2) := by decide +kernel
theorem eX23_feed_39 : decode cX23_feed 39 = .ok (.invokevirtual 1170, 3) := by decide +kernel
theorem eX23_feed_42 : decode cX23_feed 42 = .ok (.iconst 1, 1) := by decide +kernel
theorem eX23_feed_43 : decode cX23_feed 43 = .ok (.ireturn, 1) := by decide +kernel
theorem eX23_input_0 : decode cX23_input 0 = .ok (.aload_n 0, 1) := by decide +kernel
theorem eX23_input_1 : decode cX23_input 1 = .ok (.getfield 1113, 3) := by decide +kernel
theorem eX23_input_4 : decode cX23_input 4 = .ok (.bipush 60, 2) := by decide +kernel
theorem eX23_input_6 : decode cX23_input 6 = .ok (.if_icmp .ne 5, 3) := by decide +kernel
theorem eX23_input_9 : decode cX23_input 9 = .ok (.iconst 0, 1) := by decide +kernel
theorem eX23_input_10 : decode cX23_input 10 = .ok (.ireturn, 1) := by decide +kernel
theorem eX23_input_11 : decode cX23_input 11 = .ok (.aload_n 0, 1) := by decide +kernel
theorem eX23_input_12 : decode cX23_input 12 = .ok (.getfield 963, 3) := by decide +kernel
theorem eX23_input_15 : decode cX23_input 15 = .ok (.aload_n 0, 1) := by decide +kernel
theorem eX23_input_16 : decode cX23_input 16 = .ok (.getfield 1113, 3) := by decide +kernel
theorem eX23_input_19 : decode cX23_input 19 = .ok (.lload_n 1, 1) := by decide +kernel
theorem eX23_input_20 : decode cX23_input 20 = .ok (.lastore, 1) := by decide +kernel
theorem eX23_input_21 : decode cX23_input 21 = .ok (.aload_n 0, 1) := by decide +kernel
theorem eX23_input_22 : decode cX23_input 22 = .ok (.dup, 1) := by decide +kernel
theorem eX23_input_23 : decode cX23_input 23 = .ok (.getfield 1113, 3) := by decide +kernel
theorem eX23_input_26 : decode cX23_input 26 = .ok (.iconst 1, 1) := by decide +kernel
theorem eX23_input_27 : decode cX23_input 27 = .ok (.iadd, 1) := by decide +kernel
theorem eX23_input_28 : decode cX23_input 28 = .ok (.putfield 1113, 3) := by decide +kernel
theorem eX23_input_31 : decode cX23_input 31 = .ok (.iconst 1, 1) := by decide +kernel
theorem eX23_input_32 : decode cX23_input 32 = .ok (.ireturn, 1) := by decide +kernel
theorem eX23_place__0 : decode cX23_place_ 0 = .ok (.aload_n 0, 1) := by decide +kernel
theorem eX23_place__1 : decode cX23_place_ 1 = .ok (.getfield 966, 3) := by decide +kernel
theorem eX23_place__4 : decode cX23_place_ 4 = .ok (.ireturn, 1) := by decide +kernel
theorem eX23_fetch_0 : decode cX23_fetch 0 = .ok (.aload_n 0, 1) := by decide +kernel
theorem eX23_fetch_1 : decode cX23_fetch 1 = .ok (.getfield 1061, 3) := by decide +kernel
theorem eX23_fetch_4 : decode cX23_fetch 4 = .ok (.bipush 7, 2) := by decide +kernel
theorem eX23_fetch_6 : decode cX23_fetch 6 = .ok (.if_icmp .ge 10, 3) := by decide +kernel
theorem eX23_fetch_9 : decode cX23_fetch 9 = .ok (.aload_n 0, 1) := by decide +kernel
theorem eX23_fetch_10 : decode cX23_fetch 10 = .ok (.getfield 1061, 3) := by decide +kernel
theorem eX23_fetch_13 : decode cX23_fetch 13 = .ok (.goto 5, 3) := by decide +kernel
theorem eX23_fetch_16 : decode cX23_fetch 16 = .ok (.bipush 7, 2) := by decide +kernel
theorem eX23_fetch_18 : decode cX23_fetch 18 = .ok (.istore_n 1, 1) := by decide +kernel
theorem eX23_fetch_19 : decode cX23_fetch 19 = .ok (.iload_n 1, 1) := by decide +kernel
theorem eX23_fetch_20 : decode cX23_fetch 20 = .ok (.i2l, 1) := by decide +kernel
theorem eX23_fetch_21 : decode cX23_fetch 21 = .ok (.lstore_n 2, 1) := by decide +kernel
theorem eX23_fetch_22 : decode cX23_fetch 22 = .ok (.iconst 0, 1) := by decide +kernel
theorem eX23_fetch_23 : decode cX23_fetch 23 = .ok (.istore 4, 2) := by decide +kernel
theorem eX23_fetch_25 : decode cX23_fetch 25 = .ok (.iload 4, 2) := by decide +kernel
theorem eX23_fetch_27 : decode cX23_fetch 27 = .ok (.bipush 7, 2) := by decide +kernel
theorem eX23_fetch_29 : decode cX23_fetch 29 = .ok (.if_icmp .ge 55, 3) := by decide +kernel
theorem eX23_fetch_32 : decode cX23_fetch 32 = .ok (.lload_n 2, 1) := by decide +kernel
theorem eX23_fetch_33 : decode cX23_fetch 33 = .ok (.bipush 8, 2) := by decide +kernel
theorem eX23_fetch_35 : decode cX23_fetch 35 = .ok (.lshl, 1) := by decide +kernel
theorem eX23_fetch_36 : decode cX23_fetch 36 = .ok (.iload 4, 2) := by decide +kernel
theorem eX23_fetch_38 : decode cX23_fetch 38 = .ok (.iload_n 1, 1) := by decide +kernel
theorem eX23_fetch_39 : decode cX23_fetch 39 = .ok (.if_icmp .ge 15, 3) := by decide +kernel
theorem eX23_fetch_42 : decode cX23_fetch 42 = .ok (.aload_n 0, 1) := by decide +kernel
theorem eX23_fetch_43 : decode cX23_fetch 43 = .ok (.getfield 960, 3) := by decide +kernel
theorem eX23_fetch_46 : decode cX23_fetch 46 = .ok (.aload_n 0, 1) := by decide +kernel
theorem eX23_fetch_47 : decode cX23_fetch 47 = .ok (.getfield 1064, 3) := by decide +kernel
theorem eX23_fetch_50 : decode cX23_fetch 50 = .ok (.iaload, 1) := by decide +kernel
theorem eX23_fetch_51 : decode cX23_fetch 51 = .ok (.goto 4, 3) := by decide +kernel
theorem eX23_fetch_54 : decode cX23_fetch 54 = .ok (.iconst 0, 1) := by decide +kernel
theorem eX23_fetch_55 : decode cX23_fetch 55 = .ok (.i2l, 1) := by decide +kernel
theorem eX23_fetch_56 : decode cX23_fetch 56 = .ok (.lor, 1) := by decide +kernel
theorem eX23_fetch_57 : decode cX23_fetch 57 = .ok (.lstore_n 2, 1) := by decide +kernel
theorem eX23_fetch_58 : decode cX23_fetch 58 = .ok (.iload 4, 2) := by decide +kernel
theorem eX23_fetch_60 : decode cX23_fetch 60 = .ok (.iload_n 1, 1) := by decide +kernel
theorem eX23_fetch_61 : decode cX23_fetch 61 = .ok (.if_icmp .ge 17, 3) := by decide +kernel
theorem eX23_fetch_64 : decode cX23_fetch 64 = .ok (.aload_n 0, 1) := by decide +kernel
theorem eX23_fetch_65 : decode cX23_fetch 65 = .ok (.aload_n 0, 1) := by decide +kernel
theorem eX23_fetch_66 : decode cX23_fetch 66 = .ok (.getfield 1064, 3) := by decide +kernel
theorem eX23_fetch_69 : decode cX23_fetch 69 = .ok (.iconst 1, 1) := by decide +kernel
theorem eX23_fetch_70 : decode cX23_fetch 70 = .ok (.iadd, 1) := by decide +kernel
theorem eX23_fetch_71 : decode cX23_fetch 71 = .ok (.sipush 4000, 3) := by decide +kernel
theorem eX23_fetch_74 : decode cX23_fetch 74 = .ok (.irem, 1) := by decide +kernel
theorem eX23_fetch_75 : decode cX23_fetch 75 = .ok (.putfield 1064, 3) := by decide +kernel
theorem eX23_fetch_78 : decode cX23_fetch 78 = .ok (.iinc 4 1, 3) := by decide +kernel
theorem eX23_fetch_81 : decode cX23_fetch 81 = .ok (.goto (-56), 3) := by decide +kernel
theorem eX23_fetch_84 : decode cX23_fetch 84 = .ok (.aload_n 0, 1) := by decide +kernel
theorem eX23_fetch_85 : decode cX23_fetch 85 = .ok (.dup, 1) := by decide +kernel
theorem eX23_fetch_86 : decode cX23_fetch 86 = .ok (.getfield 1061, 3) := by decide +kernel
theorem eX23_fetch_89 : decode cX23_fetch 89 = .ok (.iload_n 1, 1) := by decide +kernel
theorem eX23_fetch_90 : decode cX23_fetch 90 = .ok (.isub, 1) := by decide +kernel
theorem eX23_fetch_91 : decode cX23_fetch 91 = .ok (.putfield 1061, 3) := by decide +kernel
theorem eX23_fetch_94 : decode cX23_fetch 94 = .ok (.lload_n 2, 1) := by decide +kernel
theorem eX23_fetch_95 : decode cX23_fetch 95 = .ok (.lreturn, 1) := by decide +kernel
theorem eX23_count_0 : decode cX23_count 0 = .ok (.iload_n 1, 1) := by decide +kernel
theorem eX23_count_1 : decode cX23_count 1 = .ok (.tableswitch 69 0 5 #[39, 44, 49, 54, 59, 64], 39) := by decide +kernel
theorem eX23_count_40 : decode cX23_count 40 = .ok (.aload_n 0, 1) := by decide +kernel
theorem eX23_count_41 : decode cX23_count 41 = .ok (.getfield 1188, 3) := by decide +kernel
theorem eX23_count_44 : decode cX23_count 44 = .ok (.ireturn, 1) := by decide +kernel
theorem eX23_count_45 : decode cX23_count 45 = .ok (.aload_n 0, 1) := by decide +kernel
theorem eX23_count_46 : decode cX23_count 46 = .ok (.getfield 1002, 3) := by decide +kernel
theorem eX23_count_49 : decode cX23_count 49 = .ok (.ireturn, 1) := by decide +kernel
theorem eX23_count_50 : decode cX23_count 50 = .ok (.aload_n 0, 1) := by decide +kernel
theorem eX23_count_51 : decode cX23_count 51 = .ok (.getfield 1008, 3) := by decide +kernel
theorem eX23_count_54 : decode cX23_count 54 = .ok (.ireturn, 1) := by decide +kernel
theorem eX23_count_55 : decode cX23_count 55 = .ok (.aload_n 0, 1) := by decide +kernel
theorem eX23_count_56 : decode cX23_count 56 = .ok (.getfield 1167, 3) := by decide +kernel
theorem eX23_count_59 : decode cX23_count 59 = .ok (.ireturn, 1) := by decide +kernel
theorem eX23_count_60 : decode cX23_count 60 = .ok (.aload_n 0, 1) := by decide +kernel
theorem eX23_count_61 : decode cX23_count 61 = .ok (.getfield 1061, 3) := by decide +kernel
theorem eX23_count_64 : decode cX23_count 64 = .ok (.ireturn, 1) := by decide +kernel
theorem eX23_count_65 : decode cX23_count 65 = .ok (.aload_n 0, 1) := by decide +kernel
theorem eX23_count_66 : decode cX23_count 66 = .ok (.getfield 1113, 3) := by decide +kernel
theorem eX23_count_69 : decode cX23_count 69 = .ok (.ireturn, 1) := by decide +kernel
theorem eX23_count_70 : decode cX23_count 70 = .ok (.iconst (-1), 1) := by decide +kernel
theorem eX23_count_71 : decode cX23_count 71 = .ok (.ireturn, 1) := by decide +kernel
