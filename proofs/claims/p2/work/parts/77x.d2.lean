theorem dX2_begin_0 : decode cX2_begin 0 = .ok (.aload_n 0, 1) := by decide +kernel
theorem dX2_begin_1 : decode cX2_begin 1 = .ok (.iload_n 1, 1) := by decide +kernel
theorem dX2_begin_2 : decode cX2_begin 2 = .ok (.putfield 37, 3) := by decide +kernel
theorem dX2_begin_5 : decode cX2_begin 5 = .ok (.aload_n 0, 1) := by decide +kernel
theorem dX2_begin_6 : decode cX2_begin 6 = .ok (.iconst 0, 1) := by decide +kernel
theorem dX2_begin_7 : decode cX2_begin 7 = .ok (.putfield 41, 3) := by decide +kernel
theorem dX2_begin_10 : decode cX2_begin 10 = .ok (.aload_n 0, 1) := by decide +kernel
theorem dX2_begin_11 : decode cX2_begin 11 = .ok (.iconst 0, 1) := by decide +kernel
theorem dX2_begin_12 : decode cX2_begin 12 = .ok (.putfield 44, 3) := by decide +kernel
theorem dX2_begin_15 : decode cX2_begin 15 = .ok (.aload_n 0, 1) := by decide +kernel
theorem dX2_begin_16 : decode cX2_begin 16 = .ok (.iconst 0, 1) := by decide +kernel
theorem dX2_begin_17 : decode cX2_begin 17 = .ok (.putfield 47, 3) := by decide +kernel
theorem dX2_begin_20 : decode cX2_begin 20 = .ok (.aload_n 0, 1) := by decide +kernel
theorem dX2_begin_21 : decode cX2_begin 21 = .ok (.iconst (-1), 1) := by decide +kernel
theorem dX2_begin_22 : decode cX2_begin 22 = .ok (.putfield 50, 3) := by decide +kernel
theorem dX2_begin_25 : decode cX2_begin 25 = .ok (.aload_n 0, 1) := by decide +kernel
theorem dX2_begin_26 : decode cX2_begin 26 = .ok (.iconst 0, 1) := by decide +kernel
theorem dX2_begin_27 : decode cX2_begin 27 = .ok (.putfield 53, 3) := by decide +kernel
theorem dX2_begin_30 : decode cX2_begin 30 = .ok (.aload_n 0, 1) := by decide +kernel
theorem dX2_begin_31 : decode cX2_begin 31 = .ok (.iconst 0, 1) := by decide +kernel
theorem dX2_begin_32 : decode cX2_begin 32 = .ok (.putfield 56, 3) := by decide +kernel
theorem dX2_begin_35 : decode cX2_begin 35 = .ok (.aload_n 0, 1) := by decide +kernel
theorem dX2_begin_36 : decode cX2_begin 36 = .ok (.iconst 0, 1) := by decide +kernel
theorem dX2_begin_37 : decode cX2_begin 37 = .ok (.putfield 59, 3) := by decide +kernel
theorem dX2_begin_40 : decode cX2_begin 40 = .ok (.return_, 1) := by decide +kernel
theorem dX2_close_0 : decode cX2_close 0 = .ok (.iload_n 1, 1) := by decide +kernel
theorem dX2_close_1 : decode cX2_close 1 = .ok (.istore_n 3, 1) := by decide +kernel
theorem dX2_close_2 : decode cX2_close 2 = .ok (.iload_n 3, 1) := by decide +kernel
theorem dX2_close_3 : decode cX2_close 3 = .ok (.aload_n 0, 1) := by decide +kernel
theorem dX2_close_4 : decode cX2_close 4 = .ok (.getfield 53, 3) := by decide +kernel
theorem dX2_close_7 : decode cX2_close 7 = .ok (.if_icmp .ge 25, 3) := by decide +kernel
theorem dX2_close_10 : decode cX2_close 10 = .ok (.aload_n 0, 1) := by decide +kernel
theorem dX2_close_11 : decode cX2_close 11 = .ok (.getfield 34, 3) := by decide +kernel
theorem dX2_close_14 : decode cX2_close 14 = .ok (.iload_n 3, 1) := by decide +kernel
theorem dX2_close_15 : decode cX2_close 15 = .ok (.aload_n 0, 1) := by decide +kernel
theorem dX2_close_16 : decode cX2_close 16 = .ok (.getfield 34, 3) := by decide +kernel
theorem dX2_close_19 : decode cX2_close 19 = .ok (.iload_n 3, 1) := by decide +kernel
theorem dX2_close_20 : decode cX2_close 20 = .ok (.iaload, 1) := by decide +kernel
theorem dX2_close_21 : decode cX2_close 21 = .ok (.iload_n 2, 1) := by decide +kernel
theorem dX2_close_22 : decode cX2_close 22 = .ok (.invokestatic 63, 3) := by decide +kernel
theorem dX2_close_25 : decode cX2_close 25 = .ok (.iastore, 1) := by decide +kernel
theorem dX2_close_26 : decode cX2_close 26 = .ok (.iinc 3 1, 3) := by decide +kernel
theorem dX2_close_29 : decode cX2_close 29 = .ok (.goto (-27), 3) := by decide +kernel
theorem dX2_close_32 : decode cX2_close 32 = .ok (.return_, 1) := by decide +kernel
theorem dX2_declare_0 : decode cX2_declare 0 = .ok (.aload_n 0, 1) := by decide +kernel
theorem dX2_declare_1 : decode cX2_declare 1 = .ok (.getfield 53, 3) := by decide +kernel
theorem dX2_declare_4 : decode cX2_declare 4 = .ok (.istore 4, 2) := by decide +kernel
theorem dX2_declare_6 : decode cX2_declare 6 = .ok (.aload_n 0, 1) := by decide +kernel
theorem dX2_declare_7 : decode cX2_declare 7 = .ok (.getfield 18, 3) := by decide +kernel
theorem dX2_declare_10 : decode cX2_declare 10 = .ok (.iload 4, 2) := by decide +kernel
theorem dX2_declare_12 : decode cX2_declare 12 = .ok (.iload_n 1, 1) := by decide +kernel
theorem dX2_declare_13 : decode cX2_declare 13 = .ok (.iastore, 1) := by decide +kernel
theorem dX2_declare_14 : decode cX2_declare 14 = .ok (.aload_n 0, 1) := by decide +kernel
theorem dX2_declare_15 : decode cX2_declare 15 = .ok (.getfield 21, 3) := by decide +kernel
theorem dX2_declare_18 : decode cX2_declare 18 = .ok (.iload 4, 2) := by decide +kernel
theorem dX2_declare_20 : decode cX2_declare 20 = .ok (.iconst (-1), 1) := by decide +kernel
theorem dX2_declare_21 : decode cX2_declare 21 = .ok (.iastore, 1) := by decide +kernel
theorem dX2_declare_22 : decode cX2_declare 22 = .ok (.aload_n 0, 1) := by decide +kernel
theorem dX2_declare_23 : decode cX2_declare 23 = .ok (.getfield 24, 3) := by decide +kernel
theorem dX2_declare_26 : decode cX2_declare 26 = .ok (.iload 4, 2) := by decide +kernel
theorem dX2_declare_28 : decode cX2_declare 28 = .ok (.iload_n 2, 1) := by decide +kernel
theorem dX2_declare_29 : decode cX2_declare 29 = .ok (.bastore, 1) := by decide +kernel
theorem dX2_declare_30 : decode cX2_declare 30 = .ok (.aload_n 0, 1) := by decide +kernel
theorem dX2_declare_31 : decode cX2_declare 31 = .ok (.getfield 28, 3) := by decide +kernel
theorem dX2_declare_34 : decode cX2_declare 34 = .ok (.iload 4, 2) := by decide +kernel
theorem dX2_declare_36 : decode cX2_declare 36 = .ok (.iconst 0, 1) := by decide +kernel
theorem dX2_declare_37 : decode cX2_declare 37 = .ok (.iastore, 1) := by decide +kernel
theorem dX2_declare_38 : decode cX2_declare 38 = .ok (.aload_n 0, 1) := by decide +kernel
theorem dX2_declare_39 : decode cX2_declare 39 = .ok (.getfield 31, 3) := by decide +kernel
theorem dX2_declare_42 : decode cX2_declare 42 = .ok (.iload 4, 2) := by decide +kernel
theorem dX2_declare_44 : decode cX2_declare 44 = .ok (.iload_n 3, 1) := by decide +kernel
theorem dX2_declare_45 : decode cX2_declare 45 = .ok (.iastore, 1) := by decide +kernel
theorem dX2_declare_46 : decode cX2_declare 46 = .ok (.aload_n 0, 1) := by decide +kernel
theorem dX2_declare_47 : decode cX2_declare 47 = .ok (.getfield 34, 3) := by decide +kernel
theorem dX2_declare_50 : decode cX2_declare 50 = .ok (.iload 4, 2) := by decide +kernel
theorem dX2_declare_52 : decode cX2_declare 52 = .ok (.ldc 62, 2) := by decide +kernel
theorem dX2_declare_54 : decode cX2_declare 54 = .ok (.iastore, 1) := by decide +kernel
theorem dX2_declare_55 : decode cX2_declare 55 = .ok (.aload_n 0, 1) := by decide +kernel
theorem dX2_declare_56 : decode cX2_declare 56 = .ok (.dup, 1) := by decide +kernel
theorem dX2_declare_57 : decode cX2_declare 57 = .ok (.getfield 53, 3) := by decide +kernel
theorem dX2_declare_60 : decode cX2_declare 60 = .ok (.iconst 1, 1) := by decide +kernel
theorem dX2_declare_61 : decode cX2_declare 61 = .ok (.iadd, 1) := by decide +kernel
theorem dX2_declare_62 : decode cX2_declare 62 = .ok (.putfield 53, 3) := by decide +kernel
theorem dX2_declare_65 : decode cX2_declare 65 = .ok (.iload 4, 2) := by decide +kernel
theorem dX2_declare_67 : decode cX2_declare 67 = .ok (.ireturn, 1) := by decide +kernel
theorem dX2_find_0 : decode cX2_find 0 = .ok (.aload_n 0, 1) := by decide +kernel
theorem dX2_find_1 : decode cX2_find 1 = .ok (.getfield 53, 3) := by decide +kernel
theorem dX2_find_4 : decode cX2_find 4 = .ok (.iconst 1, 1) := by decide +kernel
theorem dX2_find_5 : decode cX2_find 5 = .ok (.isub, 1) := by decide +kernel
theorem dX2_find_6 : decode cX2_find 6 = .ok (.istore_n 2, 1) := by decide +kernel
theorem dX2_find_7 : decode cX2_find 7 = .ok (.iload_n 2, 1) := by decide +kernel
theorem dX2_find_8 : decode cX2_find 8 = .ok (.ifCond .lt 32, 3) := by decide +kernel
theorem dX2_find_11 : decode cX2_find 11 = .ok (.aload_n 0, 1) := by decide +kernel
theorem dX2_find_12 : decode cX2_find 12 = .ok (.getfield 18, 3) := by decide +kernel
theorem dX2_find_15 : decode cX2_find 15 = .ok (.iload_n 2, 1) := by decide +kernel
theorem dX2_find_16 : decode cX2_find 16 = .ok (.iaload, 1) := by decide +kernel
theorem dX2_find_17 : decode cX2_find 17 = .ok (.iload_n 1, 1) := by decide +kernel
theorem dX2_find_18 : decode cX2_find 18 = .ok (.if_icmp .ne 16, 3) := by decide +kernel
theorem dX2_find_21 : decode cX2_find 21 = .ok (.aload_n 0, 1) := by decide +kernel
theorem dX2_find_22 : decode cX2_find 22 = .ok (.getfield 34, 3) := by decide +kernel
theorem dX2_find_25 : decode cX2_find 25 = .ok (.iload_n 2, 1) := by decide +kernel
theorem dX2_find_26 : decode cX2_find 26 = .ok (.iaload, 1) := by decide +kernel
theorem dX2_find_27 : decode cX2_find 27 = .ok (.ldc 62, 2) := by decide +kernel
theorem dX2_find_29 : decode cX2_find 29 = .ok (.if_icmp .ne 5, 3) := by decide +kernel
theorem dX2_find_32 : decode cX2_find 32 = .ok (.iload_n 2, 1) := by decide +kernel
theorem dX2_find_33 : decode cX2_find 33 = .ok (.ireturn, 1) := by decide +kernel
theorem dX2_find_34 : decode cX2_find 34 = .ok (.iinc 2 (-1), 3) := by decide +kernel
theorem dX2_find_37 : decode cX2_find 37 = .ok (.goto (-30), 3) := by decide +kernel
theorem dX2_find_40 : decode cX2_find 40 = .ok (.iconst (-1), 1) := by decide +kernel
theorem dX2_find_41 : decode cX2_find 41 = .ok (.ireturn, 1) := by decide +kernel
theorem dX2_init_0 : decode cX2_init 0 = .ok (.aload_n 0, 1) := by decide +kernel
theorem dX2_init_1 : decode cX2_init 1 = .ok (.invokespecial 3, 3) := by decide +kernel
theorem dX2_init_4 : decode cX2_init 4 = .ok (.aload_n 0, 1) := by decide +kernel
theorem dX2_init_5 : decode cX2_init 5 = .ok (.bipush 8, 2) := by decide +kernel
theorem dX2_init_7 : decode cX2_init 7 = .ok (.newarray .int, 2) := by decide +kernel
theorem dX2_init_9 : decode cX2_init 9 = .ok (.putfield 9, 3) := by decide +kernel
theorem dX2_init_12 : decode cX2_init 12 = .ok (.aload_n 0, 1) := by decide +kernel
theorem dX2_init_13 : decode cX2_init 13 = .ok (.bipush 12, 2) := by decide +kernel
theorem dX2_init_15 : decode cX2_init 15 = .ok (.newarray .int, 2) := by decide +kernel
theorem dX2_init_17 : decode cX2_init 17 = .ok (.putfield 15, 3) := by decide +kernel
theorem dX2_init_20 : decode cX2_init 20 = .ok (.aload_n 0, 1) := by decide +kernel
theorem dX2_init_21 : decode cX2_init 21 = .ok (.bipush 40, 2) := by decide +kernel
theorem dX2_init_23 : decode cX2_init 23 = .ok (.newarray .int, 2) := by decide +kernel
theorem dX2_init_25 : decode cX2_init 25 = .ok (.putfield 18, 3) := by decide +kernel
theorem dX2_init_28 : decode cX2_init 28 = .ok (.aload_n 0, 1) := by decide +kernel
theorem dX2_init_29 : decode cX2_init 29 = .ok (.bipush 40, 2) := by decide +kernel
theorem dX2_init_31 : decode cX2_init 31 = .ok (.newarray .int, 2) := by decide +kernel
theorem dX2_init_33 : decode cX2_init 33 = .ok (.putfield 21, 3) := by decide +kernel
theorem dX2_init_36 : decode cX2_init 36 = .ok (.aload_n 0, 1) := by decide +kernel
theorem dX2_init_37 : decode cX2_init 37 = .ok (.bipush 40, 2) := by decide +kernel
theorem dX2_init_39 : decode cX2_init 39 = .ok (.newarray .boolean, 2) := by decide +kernel
theorem dX2_init_41 : decode cX2_init 41 = .ok (.putfield 24, 3) := by decide +kernel
theorem dX2_init_44 : decode cX2_init 44 = .ok (.aload_n 0, 1) := by decide +kernel
theorem dX2_init_45 : decode cX2_init 45 = .ok (.bipush 40, 2) := by decide +kernel
theorem dX2_init_47 : decode cX2_init 47 = .ok (.newarray .int, 2) := by decide +kernel
theorem dX2_init_49 : decode cX2_init 49 = .ok (.putfield 28, 3) := by decide +kernel
theorem dX2_init_52 : decode cX2_init 52 = .ok (.aload_n 0, 1) := by decide +kernel
theorem dX2_init_53 : decode cX2_init 53 = .ok (.bipush 40, 2) := by decide +kernel
theorem dX2_init_55 : decode cX2_init 55 = .ok (.newarray .int, 2) := by decide +kernel
theorem dX2_init_57 : decode cX2_init 57 = .ok (.putfield 31, 3) := by decide +kernel
theorem dX2_init_60 : decode cX2_init 60 = .ok (.aload_n 0, 1) := by decide +kernel
theorem dX2_init_61 : decode cX2_init 61 = .ok (.bipush 40, 2) := by decide +kernel
theorem dX2_init_63 : decode cX2_init 63 = .ok (.newarray .int, 2) := by decide +kernel
theorem dX2_init_65 : decode cX2_init 65 = .ok (.putfield 34, 3) := by decide +kernel
theorem dX2_init_68 : decode cX2_init 68 = .ok (.return_, 1) := by decide +kernel
theorem dX2_lifeOf_0 : decode cX2_lifeOf 0 = .ok (.iconst 0, 1) := by decide +kernel
theorem dX2_lifeOf_1 : decode cX2_lifeOf 1 = .ok (.istore_n 2, 1) := by decide +kernel
theorem dX2_lifeOf_2 : decode cX2_lifeOf 2 = .ok (.iload_n 2, 1) := by decide +kernel
theorem dX2_lifeOf_3 : decode cX2_lifeOf 3 = .ok (.aload_n 0, 1) := by decide +kernel
theorem dX2_lifeOf_4 : decode cX2_lifeOf 4 = .ok (.getfield 41, 3) := by decide +kernel
theorem dX2_lifeOf_7 : decode cX2_lifeOf 7 = .ok (.if_icmp .ge 21, 3) := by decide +kernel
theorem dX2_lifeOf_10 : decode cX2_lifeOf 10 = .ok (.aload_n 0, 1) := by decide +kernel
theorem dX2_lifeOf_11 : decode cX2_lifeOf 11 = .ok (.getfield 9, 3) := by decide +kernel
theorem dX2_lifeOf_14 : decode cX2_lifeOf 14 = .ok (.iload_n 2, 1) := by decide +kernel
theorem dX2_lifeOf_15 : decode cX2_lifeOf 15 = .ok (.iaload, 1) := by decide +kernel
theorem dX2_lifeOf_16 : decode cX2_lifeOf 16 = .ok (.iload_n 1, 1) := by decide +kernel
theorem dX2_lifeOf_17 : decode cX2_lifeOf 17 = .ok (.if_icmp .ne 5, 3) := by decide +kernel
theorem dX2_lifeOf_20 : decode cX2_lifeOf 20 = .ok (.iload_n 2, 1) := by decide +kernel
theorem dX2_lifeOf_21 : decode cX2_lifeOf 21 = .ok (.ireturn, 1) := by decide +kernel
theorem dX2_lifeOf_22 : decode cX2_lifeOf 22 = .ok (.iinc 2 1, 3) := by decide +kernel
theorem dX2_lifeOf_25 : decode cX2_lifeOf 25 = .ok (.goto (-23), 3) := by decide +kernel
theorem dX2_lifeOf_28 : decode cX2_lifeOf 28 = .ok (.iconst (-1), 1) := by decide +kernel
theorem dX2_lifeOf_29 : decode cX2_lifeOf 29 = .ok (.ireturn, 1) := by decide +kernel
theorem dX2_settle_0 : decode cX2_settle 0 = .ok (.aload_n 0, 1) := by decide +kernel
theorem dX2_settle_1 : decode cX2_settle 1 = .ok (.getfield 21, 3) := by decide +kernel
theorem dX2_settle_4 : decode cX2_settle 4 = .ok (.iload_n 1, 1) := by decide +kernel
theorem dX2_settle_5 : decode cX2_settle 5 = .ok (.iload_n 2, 1) := by decide +kernel
theorem dX2_settle_6 : decode cX2_settle 6 = .ok (.iastore, 1) := by decide +kernel
theorem dX2_settle_7 : decode cX2_settle 7 = .ok (.aload_n 0, 1) := by decide +kernel
theorem dX2_settle_8 : decode cX2_settle 8 = .ok (.getfield 28, 3) := by decide +kernel
theorem dX2_settle_11 : decode cX2_settle 11 = .ok (.iload_n 1, 1) := by decide +kernel
theorem dX2_settle_12 : decode cX2_settle 12 = .ok (.aload_n 0, 1) := by decide +kernel
theorem dX2_settle_13 : decode cX2_settle 13 = .ok (.getfield 56, 3) := by decide +kernel
theorem dX2_settle_16 : decode cX2_settle 16 = .ok (.iastore, 1) := by decide +kernel
theorem dX2_settle_17 : decode cX2_settle 17 = .ok (.aload_n 0, 1) := by decide +kernel
theorem dX2_settle_18 : decode cX2_settle 18 = .ok (.dup, 1) := by decide +kernel
theorem dX2_settle_19 : decode cX2_settle 19 = .ok (.getfield 56, 3) := by decide +kernel
theorem dX2_settle_22 : decode cX2_settle 22 = .ok (.iload_n 3, 1) := by decide +kernel
theorem dX2_settle_23 : decode cX2_settle 23 = .ok (.iadd, 1) := by decide +kernel
theorem dX2_settle_24 : decode cX2_settle 24 = .ok (.putfield 56, 3) := by decide +kernel
theorem dX2_settle_27 : decode cX2_settle 27 = .ok (.return_, 1) := by decide +kernel
