theorem dX4_access_0 : decode cX4_access 0 = .ok (.aload_n 0, 1) := by decide +kernel
theorem dX4_access_1 : decode cX4_access 1 = .ok (.getfield 39, 3) := by decide +kernel
theorem dX4_access_4 : decode cX4_access 4 = .ok (.aload_n 0, 1) := by decide +kernel
theorem dX4_access_5 : decode cX4_access 5 = .ok (.getfield 46, 3) := by decide +kernel
theorem dX4_access_8 : decode cX4_access 8 = .ok (.getfield 126, 3) := by decide +kernel
theorem dX4_access_11 : decode cX4_access 11 = .ok (.iload_n 2, 1) := by decide +kernel
theorem dX4_access_12 : decode cX4_access 12 = .ok (.iaload, 1) := by decide +kernel
theorem dX4_access_13 : decode cX4_access 13 = .ok (.laload, 1) := by decide +kernel
theorem dX4_access_14 : decode cX4_access 14 = .ok (.lstore 4, 2) := by decide +kernel
theorem dX4_access_16 : decode cX4_access 16 = .ok (.iload_n 3, 1) := by decide +kernel
theorem dX4_access_17 : decode cX4_access 17 = .ok (.ifCond .ne 16, 3) := by decide +kernel
theorem dX4_access_20 : decode cX4_access 20 = .ok (.lload 4, 2) := by decide +kernel
theorem dX4_access_22 : decode cX4_access 22 = .ok (.aload_n 0, 1) := by decide +kernel
theorem dX4_access_23 : decode cX4_access 23 = .ok (.getfield 102, 3) := by decide +kernel
theorem dX4_access_26 : decode cX4_access 26 = .ok (.ldc2_w 142, 3) := by decide +kernel
theorem dX4_access_29 : decode cX4_access 29 = .ok (.lxor, 1) := by decide +kernel
theorem dX4_access_30 : decode cX4_access 30 = .ok (.land, 1) := by decide +kernel
theorem dX4_access_31 : decode cX4_access 31 = .ok (.lstore 4, 2) := by decide +kernel
theorem dX4_access_33 : decode cX4_access 33 = .ok (.lload 4, 2) := by decide +kernel
theorem dX4_access_35 : decode cX4_access 35 = .ok (.lconst 0, 1) := by decide +kernel
theorem dX4_access_36 : decode cX4_access 36 = .ok (.lcmp, 1) := by decide +kernel
theorem dX4_access_37 : decode cX4_access 37 = .ok (.ifCond .ne 4, 3) := by decide +kernel
theorem dX4_access_40 : decode cX4_access 40 = .ok (.return_, 1) := by decide +kernel
theorem dX4_access_41 : decode cX4_access 41 = .ok (.lload 4, 2) := by decide +kernel
theorem dX4_access_43 : decode cX4_access 43 = .ok (.aload_n 0, 1) := by decide +kernel
theorem dX4_access_44 : decode cX4_access 44 = .ok (.iload_n 1, 1) := by decide +kernel
theorem dX4_access_45 : decode cX4_access 45 = .ok (.invokevirtual 224, 3) := by decide +kernel
theorem dX4_access_48 : decode cX4_access 48 = .ok (.land, 1) := by decide +kernel
theorem dX4_access_49 : decode cX4_access 49 = .ok (.lstore 4, 2) := by decide +kernel
theorem dX4_access_51 : decode cX4_access 51 = .ok (.iconst 0, 1) := by decide +kernel
theorem dX4_access_52 : decode cX4_access 52 = .ok (.istore 6, 2) := by decide +kernel
theorem dX4_access_54 : decode cX4_access 54 = .ok (.iload 6, 2) := by decide +kernel
theorem dX4_access_56 : decode cX4_access 56 = .ok (.aload_n 0, 1) := by decide +kernel
theorem dX4_access_57 : decode cX4_access 57 = .ok (.getfield 54, 3) := by decide +kernel
theorem dX4_access_60 : decode cX4_access 60 = .ok (.getfield 62, 3) := by decide +kernel
theorem dX4_access_63 : decode cX4_access 63 = .ok (.if_icmp .ge 49, 3) := by decide +kernel
theorem dX4_access_66 : decode cX4_access 66 = .ok (.lload 4, 2) := by decide +kernel
theorem dX4_access_68 : decode cX4_access 68 = .ok (.iload 6, 2) := by decide +kernel
theorem dX4_access_70 : decode cX4_access 70 = .ok (.lushr, 1) := by decide +kernel
theorem dX4_access_71 : decode cX4_access 71 = .ok (.lconst 1, 1) := by decide +kernel
theorem dX4_access_72 : decode cX4_access 72 = .ok (.land, 1) := by decide +kernel
theorem dX4_access_73 : decode cX4_access 73 = .ok (.lconst 1, 1) := by decide +kernel
theorem dX4_access_74 : decode cX4_access 74 = .ok (.lcmp, 1) := by decide +kernel
theorem dX4_access_75 : decode cX4_access 75 = .ok (.ifCond .ne 31, 3) := by decide +kernel
theorem dX4_access_78 : decode cX4_access 78 = .ok (.aload_n 0, 1) := by decide +kernel
theorem dX4_access_79 : decode cX4_access 79 = .ok (.iload_n 2, 1) := by decide +kernel
theorem dX4_access_80 : decode cX4_access 80 = .ok (.aload_n 0, 1) := by decide +kernel
theorem dX4_access_81 : decode cX4_access 81 = .ok (.getfield 32, 3) := by decide +kernel
theorem dX4_access_84 : decode cX4_access 84 = .ok (.iload 6, 2) := by decide +kernel
theorem dX4_access_86 : decode cX4_access 86 = .ok (.iaload, 1) := by decide +kernel
theorem dX4_access_87 : decode cX4_access 87 = .ok (.invokevirtual 239, 3) := by decide +kernel
theorem dX4_access_90 : decode cX4_access 90 = .ok (.ifCond .eq 16, 3) := by decide +kernel
theorem dX4_access_93 : decode cX4_access 93 = .ok (.aload_n 0, 1) := by decide +kernel
theorem dX4_access_94 : decode cX4_access 94 = .ok (.aload_n 0, 1) := by decide +kernel
theorem dX4_access_95 : decode cX4_access 95 = .ok (.getfield 46, 3) := by decide +kernel
theorem dX4_access_98 : decode cX4_access 98 = .ok (.getfield 243, 3) := by decide +kernel
theorem dX4_access_101 : decode cX4_access 101 = .ok (.iload_n 2, 1) := by decide +kernel
theorem dX4_access_102 : decode cX4_access 102 = .ok (.iaload, 1) := by decide +kernel
theorem dX4_access_103 : decode cX4_access 103 = .ok (.invokevirtual 230, 3) := by decide +kernel
theorem dX4_access_106 : decode cX4_access 106 = .ok (.iinc 6 1, 3) := by decide +kernel
theorem dX4_access_109 : decode cX4_access 109 = .ok (.goto (-55), 3) := by decide +kernel
theorem dX4_access_112 : decode cX4_access 112 = .ok (.return_, 1) := by decide +kernel
theorem dX4_aliveBehind_0 : decode cX4_aliveBehind 0 = .ok (.lconst 0, 1) := by decide +kernel
theorem dX4_aliveBehind_1 : decode cX4_aliveBehind 1 = .ok (.lstore_n 2, 1) := by decide +kernel
theorem dX4_aliveBehind_2 : decode cX4_aliveBehind 2 = .ok (.iconst 0, 1) := by decide +kernel
theorem dX4_aliveBehind_3 : decode cX4_aliveBehind 3 = .ok (.istore 4, 2) := by decide +kernel
theorem dX4_aliveBehind_5 : decode cX4_aliveBehind 5 = .ok (.iload 4, 2) := by decide +kernel
theorem dX4_aliveBehind_7 : decode cX4_aliveBehind 7 = .ok (.aload_n 0, 1) := by decide +kernel
theorem dX4_aliveBehind_8 : decode cX4_aliveBehind 8 = .ok (.getfield 154, 3) := by decide +kernel
theorem dX4_aliveBehind_11 : decode cX4_aliveBehind 11 = .ok (.if_icmp .ge 19, 3) := by decide +kernel
theorem dX4_aliveBehind_14 : decode cX4_aliveBehind 14 = .ok (.lload_n 2, 1) := by decide +kernel
theorem dX4_aliveBehind_15 : decode cX4_aliveBehind 15 = .ok (.aload_n 0, 1) := by decide +kernel
theorem dX4_aliveBehind_16 : decode cX4_aliveBehind 16 = .ok (.getfield 29, 3) := by decide +kernel
theorem dX4_aliveBehind_19 : decode cX4_aliveBehind 19 = .ok (.iload 4, 2) := by decide +kernel
theorem dX4_aliveBehind_21 : decode cX4_aliveBehind 21 = .ok (.laload, 1) := by decide +kernel
theorem dX4_aliveBehind_22 : decode cX4_aliveBehind 22 = .ok (.lor, 1) := by decide +kernel
theorem dX4_aliveBehind_23 : decode cX4_aliveBehind 23 = .ok (.lstore_n 2, 1) := by decide +kernel
theorem dX4_aliveBehind_24 : decode cX4_aliveBehind 24 = .ok (.iinc 4 1, 3) := by decide +kernel
theorem dX4_aliveBehind_27 : decode cX4_aliveBehind 27 = .ok (.goto (-22), 3) := by decide +kernel
theorem dX4_aliveBehind_30 : decode cX4_aliveBehind 30 = .ok (.iconst 0, 1) := by decide +kernel
theorem dX4_aliveBehind_31 : decode cX4_aliveBehind 31 = .ok (.istore 4, 2) := by decide +kernel
theorem dX4_aliveBehind_33 : decode cX4_aliveBehind 33 = .ok (.iload 4, 2) := by decide +kernel
theorem dX4_aliveBehind_35 : decode cX4_aliveBehind 35 = .ok (.aload_n 0, 1) := by decide +kernel
theorem dX4_aliveBehind_36 : decode cX4_aliveBehind 36 = .ok (.getfield 54, 3) := by decide +kernel
theorem dX4_aliveBehind_39 : decode cX4_aliveBehind 39 = .ok (.getfield 157, 3) := by decide +kernel
theorem dX4_aliveBehind_42 : decode cX4_aliveBehind 42 = .ok (.if_icmp .ge 35, 3) := by decide +kernel
theorem dX4_aliveBehind_45 : decode cX4_aliveBehind 45 = .ok (.aload_n 0, 1) := by decide +kernel
theorem dX4_aliveBehind_46 : decode cX4_aliveBehind 46 = .ok (.getfield 9, 3) := by decide +kernel
theorem dX4_aliveBehind_49 : decode cX4_aliveBehind 49 = .ok (.iload_n 1, 1) := by decide +kernel
theorem dX4_aliveBehind_50 : decode cX4_aliveBehind 50 = .ok (.laload, 1) := by decide +kernel
theorem dX4_aliveBehind_51 : decode cX4_aliveBehind 51 = .ok (.iload 4, 2) := by decide +kernel
theorem dX4_aliveBehind_53 : decode cX4_aliveBehind 53 = .ok (.lushr, 1) := by decide +kernel
theorem dX4_aliveBehind_54 : decode cX4_aliveBehind 54 = .ok (.lconst 1, 1) := by decide +kernel
theorem dX4_aliveBehind_55 : decode cX4_aliveBehind 55 = .ok (.land, 1) := by decide +kernel
theorem dX4_aliveBehind_56 : decode cX4_aliveBehind 56 = .ok (.lconst 1, 1) := by decide +kernel
theorem dX4_aliveBehind_57 : decode cX4_aliveBehind 57 = .ok (.lcmp, 1) := by decide +kernel
theorem dX4_aliveBehind_58 : decode cX4_aliveBehind 58 = .ok (.ifCond .ne 13, 3) := by decide +kernel
theorem dX4_aliveBehind_61 : decode cX4_aliveBehind 61 = .ok (.lload_n 2, 1) := by decide +kernel
theorem dX4_aliveBehind_62 : decode cX4_aliveBehind 62 = .ok (.aload_n 0, 1) := by decide +kernel
theorem dX4_aliveBehind_63 : decode cX4_aliveBehind 63 = .ok (.getfield 18, 3) := by decide +kernel
theorem dX4_aliveBehind_66 : decode cX4_aliveBehind 66 = .ok (.iload 4, 2) := by decide +kernel
theorem dX4_aliveBehind_68 : decode cX4_aliveBehind 68 = .ok (.laload, 1) := by decide +kernel
theorem dX4_aliveBehind_69 : decode cX4_aliveBehind 69 = .ok (.lor, 1) := by decide +kernel
theorem dX4_aliveBehind_70 : decode cX4_aliveBehind 70 = .ok (.lstore_n 2, 1) := by decide +kernel
theorem dX4_aliveBehind_71 : decode cX4_aliveBehind 71 = .ok (.iinc 4 1, 3) := by decide +kernel
theorem dX4_aliveBehind_74 : decode cX4_aliveBehind 74 = .ok (.goto (-41), 3) := by decide +kernel
theorem dX4_aliveBehind_77 : decode cX4_aliveBehind 77 = .ok (.lload_n 2, 1) := by decide +kernel
theorem dX4_aliveBehind_78 : decode cX4_aliveBehind 78 = .ok (.lreturn, 1) := by decide +kernel
theorem dX4_assign_0 : decode cX4_assign 0 = .ok (.aload_n 0, 1) := by decide +kernel
theorem dX4_assign_1 : decode cX4_assign 1 = .ok (.getfield 46, 3) := by decide +kernel
theorem dX4_assign_4 : decode cX4_assign 4 = .ok (.getfield 123, 3) := by decide +kernel
theorem dX4_assign_7 : decode cX4_assign 7 = .ok (.iload_n 1, 1) := by decide +kernel
theorem dX4_assign_8 : decode cX4_assign 8 = .ok (.iaload, 1) := by decide +kernel
theorem dX4_assign_9 : decode cX4_assign 9 = .ok (.istore_n 2, 1) := by decide +kernel
theorem dX4_assign_10 : decode cX4_assign 10 = .ok (.aload_n 0, 1) := by decide +kernel
theorem dX4_assign_11 : decode cX4_assign 11 = .ok (.iconst 1, 1) := by decide +kernel
theorem dX4_assign_12 : decode cX4_assign 12 = .ok (.invokevirtual 193, 3) := by decide +kernel
theorem dX4_assign_15 : decode cX4_assign 15 = .ok (.lstore_n 3, 1) := by decide +kernel
theorem dX4_assign_16 : decode cX4_assign 16 = .ok (.aload_n 0, 1) := by decide +kernel
theorem dX4_assign_17 : decode cX4_assign 17 = .ok (.getfield 42, 3) := by decide +kernel
theorem dX4_assign_20 : decode cX4_assign 20 = .ok (.aload_n 0, 1) := by decide +kernel
theorem dX4_assign_21 : decode cX4_assign 21 = .ok (.getfield 46, 3) := by decide +kernel
theorem dX4_assign_24 : decode cX4_assign 24 = .ok (.getfield 187, 3) := by decide +kernel
theorem dX4_assign_27 : decode cX4_assign 27 = .ok (.iload_n 2, 1) := by decide +kernel
theorem dX4_assign_28 : decode cX4_assign 28 = .ok (.iaload, 1) := by decide +kernel
theorem dX4_assign_29 : decode cX4_assign 29 = .ok (.invokevirtual 70, 3) := by decide +kernel
theorem dX4_assign_32 : decode cX4_assign 32 = .ok (.ifCond .eq 21, 3) := by decide +kernel
theorem dX4_assign_35 : decode cX4_assign 35 = .ok (.aload_n 0, 1) := by decide +kernel
theorem dX4_assign_36 : decode cX4_assign 36 = .ok (.getfield 18, 3) := by decide +kernel
theorem dX4_assign_39 : decode cX4_assign 39 = .ok (.aload_n 0, 1) := by decide +kernel
theorem dX4_assign_40 : decode cX4_assign 40 = .ok (.getfield 46, 3) := by decide +kernel
theorem dX4_assign_43 : decode cX4_assign 43 = .ok (.getfield 126, 3) := by decide +kernel
theorem dX4_assign_46 : decode cX4_assign 46 = .ok (.iload_n 2, 1) := by decide +kernel
theorem dX4_assign_47 : decode cX4_assign 47 = .ok (.iaload, 1) := by decide +kernel
theorem dX4_assign_48 : decode cX4_assign 48 = .ok (.lload_n 3, 1) := by decide +kernel
theorem dX4_assign_49 : decode cX4_assign 49 = .ok (.lastore, 1) := by decide +kernel
theorem dX4_assign_50 : decode cX4_assign 50 = .ok (.goto 10, 3) := by decide +kernel
theorem dX4_assign_53 : decode cX4_assign 53 = .ok (.aload_n 0, 1) := by decide +kernel
theorem dX4_assign_54 : decode cX4_assign 54 = .ok (.iload_n 1, 1) := by decide +kernel
theorem dX4_assign_55 : decode cX4_assign 55 = .ok (.iload_n 2, 1) := by decide +kernel
theorem dX4_assign_56 : decode cX4_assign 56 = .ok (.iconst 1, 1) := by decide +kernel
theorem dX4_assign_57 : decode cX4_assign 57 = .ok (.invokevirtual 183, 3) := by decide +kernel
theorem dX4_assign_60 : decode cX4_assign 60 = .ok (.return_, 1) := by decide +kernel
theorem dX4_borrow_0 : decode cX4_borrow 0 = .ok (.aload_n 0, 1) := by decide +kernel
theorem dX4_borrow_1 : decode cX4_borrow 1 = .ok (.getfield 46, 3) := by decide +kernel
theorem dX4_borrow_4 : decode cX4_borrow 4 = .ok (.getfield 123, 3) := by decide +kernel
theorem dX4_borrow_7 : decode cX4_borrow 7 = .ok (.iload_n 1, 1) := by decide +kernel
theorem dX4_borrow_8 : decode cX4_borrow 8 = .ok (.iaload, 1) := by decide +kernel
theorem dX4_borrow_9 : decode cX4_borrow 9 = .ok (.istore_n 2, 1) := by decide +kernel
theorem dX4_borrow_10 : decode cX4_borrow 10 = .ok (.aload_n 0, 1) := by decide +kernel
theorem dX4_borrow_11 : decode cX4_borrow 11 = .ok (.getfield 46, 3) := by decide +kernel
theorem dX4_borrow_14 : decode cX4_borrow 14 = .ok (.getfield 126, 3) := by decide +kernel
theorem dX4_borrow_17 : decode cX4_borrow 17 = .ok (.iload_n 2, 1) := by decide +kernel
theorem dX4_borrow_18 : decode cX4_borrow 18 = .ok (.iaload, 1) := by decide +kernel
theorem dX4_borrow_19 : decode cX4_borrow 19 = .ok (.istore_n 3, 1) := by decide +kernel
theorem dX4_borrow_20 : decode cX4_borrow 20 = .ok (.aload_n 0, 1) := by decide +kernel
theorem dX4_borrow_21 : decode cX4_borrow 21 = .ok (.iload_n 1, 1) := by decide +kernel
theorem dX4_borrow_22 : decode cX4_borrow 22 = .ok (.iload_n 2, 1) := by decide +kernel
theorem dX4_borrow_23 : decode cX4_borrow 23 = .ok (.aload_n 0, 1) := by decide +kernel
theorem dX4_borrow_24 : decode cX4_borrow 24 = .ok (.getfield 46, 3) := by decide +kernel
theorem dX4_borrow_27 : decode cX4_borrow 27 = .ok (.getfield 129, 3) := by decide +kernel
theorem dX4_borrow_30 : decode cX4_borrow 30 = .ok (.iload_n 1, 1) := by decide +kernel
theorem dX4_borrow_31 : decode cX4_borrow 31 = .ok (.iaload, 1) := by decide +kernel
theorem dX4_borrow_32 : decode cX4_borrow 32 = .ok (.iconst 1, 1) := by decide +kernel
theorem dX4_borrow_33 : decode cX4_borrow 33 = .ok (.if_icmp .ne 7, 3) := by decide +kernel
theorem dX4_borrow_36 : decode cX4_borrow 36 = .ok (.iconst 1, 1) := by decide +kernel
theorem dX4_borrow_37 : decode cX4_borrow 37 = .ok (.goto 4, 3) := by decide +kernel
theorem dX4_borrow_40 : decode cX4_borrow 40 = .ok (.iconst 0, 1) := by decide +kernel
theorem dX4_borrow_41 : decode cX4_borrow 41 = .ok (.invokevirtual 183, 3) := by decide +kernel
theorem dX4_borrow_44 : decode cX4_borrow 44 = .ok (.lconst 1, 1) := by decide +kernel
theorem dX4_borrow_45 : decode cX4_borrow 45 = .ok (.aload_n 0, 1) := by decide +kernel
theorem dX4_borrow_46 : decode cX4_borrow 46 = .ok (.getfield 46, 3) := by decide +kernel
theorem dX4_borrow_49 : decode cX4_borrow 49 = .ok (.getfield 120, 3) := by decide +kernel
theorem dX4_borrow_52 : decode cX4_borrow 52 = .ok (.iload_n 1, 1) := by decide +kernel
theorem dX4_borrow_53 : decode cX4_borrow 53 = .ok (.iaload, 1) := by decide +kernel
theorem dX4_borrow_54 : decode cX4_borrow 54 = .ok (.lshl, 1) := by decide +kernel
theorem dX4_borrow_55 : decode cX4_borrow 55 = .ok (.aload_n 0, 1) := by decide +kernel
theorem dX4_borrow_56 : decode cX4_borrow 56 = .ok (.getfield 42, 3) := by decide +kernel
theorem dX4_borrow_59 : decode cX4_borrow 59 = .ok (.aload_n 0, 1) := by decide +kernel
theorem dX4_borrow_60 : decode cX4_borrow 60 = .ok (.getfield 54, 3) := by decide +kernel
theorem dX4_borrow_63 : decode cX4_borrow 63 = .ok (.getfield 163, 3) := by decide +kernel
theorem dX4_borrow_66 : decode cX4_borrow 66 = .ok (.iload_n 3, 1) := by decide +kernel
theorem dX4_borrow_67 : decode cX4_borrow 67 = .ok (.iaload, 1) := by decide +kernel
theorem dX4_borrow_68 : decode cX4_borrow 68 = .ok (.invokevirtual 70, 3) := by decide +kernel
theorem dX4_borrow_71 : decode cX4_borrow 71 = .ok (.ifCond .eq 12, 3) := by decide +kernel
theorem dX4_borrow_74 : decode cX4_borrow 74 = .ok (.aload_n 0, 1) := by decide +kernel
theorem dX4_borrow_75 : decode cX4_borrow 75 = .ok (.getfield 18, 3) := by decide +kernel
theorem dX4_borrow_78 : decode cX4_borrow 78 = .ok (.iload_n 3, 1) := by decide +kernel
theorem dX4_borrow_79 : decode cX4_borrow 79 = .ok (.laload, 1) := by decide +kernel
theorem dX4_borrow_80 : decode cX4_borrow 80 = .ok (.goto 4, 3) := by decide +kernel
theorem dX4_borrow_83 : decode cX4_borrow 83 = .ok (.lconst 0, 1) := by decide +kernel
theorem dX4_borrow_84 : decode cX4_borrow 84 = .ok (.lor, 1) := by decide +kernel
theorem dX4_borrow_85 : decode cX4_borrow 85 = .ok (.lstore 4, 2) := by decide +kernel
theorem dX4_borrow_87 : decode cX4_borrow 87 = .ok (.aload_n 0, 1) := by decide +kernel
theorem dX4_borrow_88 : decode cX4_borrow 88 = .ok (.getfield 36, 3) := by decide +kernel
theorem dX4_borrow_91 : decode cX4_borrow 91 = .ok (.aload_n 0, 1) := by decide +kernel
theorem dX4_borrow_92 : decode cX4_borrow 92 = .ok (.getfield 46, 3) := by decide +kernel
theorem dX4_borrow_95 : decode cX4_borrow 95 = .ok (.getfield 120, 3) := by decide +kernel
theorem dX4_borrow_98 : decode cX4_borrow 98 = .ok (.iload_n 1, 1) := by decide +kernel
theorem dX4_borrow_99 : decode cX4_borrow 99 = .ok (.iaload, 1) := by decide +kernel
theorem dX4_borrow_100 : decode cX4_borrow 100 = .ok (.lload 4, 2) := by decide +kernel
theorem dX4_borrow_102 : decode cX4_borrow 102 = .ok (.lastore, 1) := by decide +kernel
theorem dX4_borrow_103 : decode cX4_borrow 103 = .ok (.aload_n 0, 1) := by decide +kernel
theorem dX4_borrow_104 : decode cX4_borrow 104 = .ok (.lload 4, 2) := by decide +kernel
theorem dX4_borrow_106 : decode cX4_borrow 106 = .ok (.invokevirtual 179, 3) := by decide +kernel
theorem dX4_borrow_109 : decode cX4_borrow 109 = .ok (.return_, 1) := by decide +kernel
theorem dX4_call_0 : decode cX4_call 0 = .ok (.lconst 0, 1) := by decide +kernel
theorem dX4_call_1 : decode cX4_call 1 = .ok (.lstore_n 2, 1) := by decide +kernel
theorem dX4_call_2 : decode cX4_call 2 = .ok (.aload_n 1, 1) := by decide +kernel
theorem dX4_call_3 : decode cX4_call 3 = .ok (.getfield 160, 3) := by decide +kernel
theorem dX4_call_6 : decode cX4_call 6 = .ok (.iconst 1, 1) := by decide +kernel
theorem dX4_call_7 : decode cX4_call 7 = .ok (.isub, 1) := by decide +kernel
theorem dX4_call_8 : decode cX4_call 8 = .ok (.istore 4, 2) := by decide +kernel
theorem dX4_call_10 : decode cX4_call 10 = .ok (.iload 4, 2) := by decide +kernel
theorem dX4_call_12 : decode cX4_call 12 = .ok (.ifCond .lt 42, 3) := by decide +kernel
theorem dX4_call_15 : decode cX4_call 15 = .ok (.aload_n 0, 1) := by decide +kernel
theorem dX4_call_16 : decode cX4_call 16 = .ok (.iconst 1, 1) := by decide +kernel
theorem dX4_call_17 : decode cX4_call 17 = .ok (.invokevirtual 193, 3) := by decide +kernel
theorem dX4_call_20 : decode cX4_call 20 = .ok (.lstore 5, 2) := by decide +kernel
theorem dX4_call_22 : decode cX4_call 22 = .ok (.aload_n 1, 1) := by decide +kernel
theorem dX4_call_23 : decode cX4_call 23 = .ok (.getfield 221, 3) := by decide +kernel
theorem dX4_call_26 : decode cX4_call 26 = .ok (.ifCond .lt 17, 3) := by decide +kernel
theorem dX4_call_29 : decode cX4_call 29 = .ok (.aload_n 1, 1) := by decide +kernel
theorem dX4_call_30 : decode cX4_call 30 = .ok (.getfield 166, 3) := by decide +kernel
theorem dX4_call_33 : decode cX4_call 33 = .ok (.iload 4, 2) := by decide +kernel
theorem dX4_call_35 : decode cX4_call 35 = .ok (.iaload, 1) := by decide +kernel
theorem dX4_call_36 : decode cX4_call 36 = .ok (.aload_n 1, 1) := by decide +kernel
theorem dX4_call_37 : decode cX4_call 37 = .ok (.getfield 221, 3) := by decide +kernel
theorem dX4_call_40 : decode cX4_call 40 = .ok (.if_icmp .ne 8, 3) := by decide +kernel
theorem dX4_call_43 : decode cX4_call 43 = .ok (.lload_n 2, 1) := by decide +kernel
theorem dX4_call_44 : decode cX4_call 44 = .ok (.lload 5, 2) := by decide +kernel
theorem dX4_call_46 : decode cX4_call 46 = .ok (.lor, 1) := by decide +kernel
theorem dX4_call_47 : decode cX4_call 47 = .ok (.lstore_n 2, 1) := by decide +kernel
theorem dX4_call_48 : decode cX4_call 48 = .ok (.iinc 4 (-1), 3) := by decide +kernel
theorem dX4_call_51 : decode cX4_call 51 = .ok (.goto (-41), 3) := by decide +kernel
theorem dX4_call_54 : decode cX4_call 54 = .ok (.aload_n 0, 1) := by decide +kernel
theorem dX4_call_55 : decode cX4_call 55 = .ok (.aload_n 0, 1) := by decide +kernel
theorem dX4_call_56 : decode cX4_call 56 = .ok (.getfield 42, 3) := by decide +kernel
theorem dX4_call_59 : decode cX4_call 59 = .ok (.aload_n 1, 1) := by decide +kernel
theorem dX4_call_60 : decode cX4_call 60 = .ok (.getfield 67, 3) := by decide +kernel
theorem dX4_call_63 : decode cX4_call 63 = .ok (.invokevirtual 70, 3) := by decide +kernel
theorem dX4_call_66 : decode cX4_call 66 = .ok (.ifCond .eq 7, 3) := by decide +kernel
theorem dX4_call_69 : decode cX4_call 69 = .ok (.lload_n 2, 1) := by decide +kernel
theorem dX4_call_70 : decode cX4_call 70 = .ok (.goto 4, 3) := by decide +kernel
theorem dX4_call_73 : decode cX4_call 73 = .ok (.lconst 0, 1) := by decide +kernel
theorem dX4_call_74 : decode cX4_call 74 = .ok (.invokevirtual 179, 3) := by decide +kernel
theorem dX4_call_77 : decode cX4_call 77 = .ok (.return_, 1) := by decide +kernel
theorem dX4_findUses_0 : decode cX4_findUses 0 = .ok (.aload_n 0, 1) := by decide +kernel
theorem dX4_findUses_1 : decode cX4_findUses 1 = .ok (.getfield 15, 3) := by decide +kernel
theorem dX4_findUses_4 : decode cX4_findUses 4 = .ok (.aload_n 0, 1) := by decide +kernel
theorem dX4_findUses_5 : decode cX4_findUses 5 = .ok (.getfield 54, 3) := by decide +kernel
theorem dX4_findUses_8 : decode cX4_findUses 8 = .ok (.getfield 82, 3) := by decide +kernel
theorem dX4_findUses_11 : decode cX4_findUses 11 = .ok (.aload_n 0, 1) := by decide +kernel
theorem dX4_findUses_12 : decode cX4_findUses 12 = .ok (.getfield 54, 3) := by decide +kernel
theorem dX4_findUses_15 : decode cX4_findUses 15 = .ok (.getfield 85, 3) := by decide +kernel
theorem dX4_findUses_18 : decode cX4_findUses 18 = .ok (.lconst 0, 1) := by decide +kernel
theorem dX4_findUses_19 : decode cX4_findUses 19 = .ok (.invokestatic 88, 3) := by decide +kernel
theorem dX4_findUses_22 : decode cX4_findUses 22 = .ok (.aload_n 0, 1) := by decide +kernel
theorem dX4_findUses_23 : decode cX4_findUses 23 = .ok (.iconst 1, 1) := by decide +kernel
theorem dX4_findUses_24 : decode cX4_findUses 24 = .ok (.putfield 94, 3) := by decide +kernel
theorem dX4_findUses_27 : decode cX4_findUses 27 = .ok (.iconst 0, 1) := by decide +kernel
theorem dX4_findUses_28 : decode cX4_findUses 28 = .ok (.istore_n 1, 1) := by decide +kernel
theorem dX4_findUses_29 : decode cX4_findUses 29 = .ok (.iload_n 1, 1) := by decide +kernel
theorem dX4_findUses_30 : decode cX4_findUses 30 = .ok (.ldc 98, 2) := by decide +kernel
theorem dX4_findUses_32 : decode cX4_findUses 32 = .ok (.if_icmp .ge 68, 3) := by decide +kernel
theorem dX4_findUses_35 : decode cX4_findUses 35 = .ok (.aload_n 0, 1) := by decide +kernel
theorem dX4_findUses_36 : decode cX4_findUses 36 = .ok (.getfield 94, 3) := by decide +kernel
theorem dX4_findUses_39 : decode cX4_findUses 39 = .ok (.ifCond .eq 61, 3) := by decide +kernel
theorem dX4_findUses_42 : decode cX4_findUses 42 = .ok (.aload_n 0, 1) := by decide +kernel
theorem dX4_findUses_43 : decode cX4_findUses 43 = .ok (.iconst 0, 1) := by decide +kernel
theorem dX4_findUses_44 : decode cX4_findUses 44 = .ok (.putfield 94, 3) := by decide +kernel
theorem dX4_findUses_47 : decode cX4_findUses 47 = .ok (.lconst 0, 1) := by decide +kernel
theorem dX4_findUses_48 : decode cX4_findUses 48 = .ok (.lstore_n 2, 1) := by decide +kernel
theorem dX4_findUses_49 : decode cX4_findUses 49 = .ok (.aload_n 0, 1) := by decide +kernel
theorem dX4_findUses_50 : decode cX4_findUses 50 = .ok (.getfield 54, 3) := by decide +kernel
theorem dX4_findUses_53 : decode cX4_findUses 53 = .ok (.getfield 112, 3) := by decide +kernel
theorem dX4_findUses_56 : decode cX4_findUses 56 = .ok (.iconst 1, 1) := by decide +kernel
theorem dX4_findUses_57 : decode cX4_findUses 57 = .ok (.isub, 1) := by decide +kernel
theorem dX4_findUses_58 : decode cX4_findUses 58 = .ok (.istore 4, 2) := by decide +kernel
theorem dX4_findUses_60 : decode cX4_findUses 60 = .ok (.iload 4, 2) := by decide +kernel
theorem dX4_findUses_62 : decode cX4_findUses 62 = .ok (.aload_n 0, 1) := by decide +kernel
theorem dX4_findUses_63 : decode cX4_findUses 63 = .ok (.getfield 54, 3) := by decide +kernel
theorem dX4_findUses_66 : decode cX4_findUses 66 = .ok (.getfield 109, 3) := by decide +kernel
theorem dX4_findUses_69 : decode cX4_findUses 69 = .ok (.if_icmp .lt 25, 3) := by decide +kernel
theorem dX4_findUses_72 : decode cX4_findUses 72 = .ok (.aload_n 0, 1) := by decide +kernel
theorem dX4_findUses_73 : decode cX4_findUses 73 = .ok (.getfield 9, 3) := by decide +kernel
theorem dX4_findUses_76 : decode cX4_findUses 76 = .ok (.iload 4, 2) := by decide +kernel
theorem dX4_findUses_78 : decode cX4_findUses 78 = .ok (.lload_n 2, 1) := by decide +kernel
theorem dX4_findUses_79 : decode cX4_findUses 79 = .ok (.lastore, 1) := by decide +kernel
theorem dX4_findUses_80 : decode cX4_findUses 80 = .ok (.aload_n 0, 1) := by decide +kernel
theorem dX4_findUses_81 : decode cX4_findUses 81 = .ok (.iload 4, 2) := by decide +kernel
theorem dX4_findUses_83 : decode cX4_findUses 83 = .ok (.lload_n 2, 1) := by decide +kernel
theorem dX4_findUses_84 : decode cX4_findUses 84 = .ok (.invokevirtual 132, 3) := by decide +kernel
theorem dX4_findUses_87 : decode cX4_findUses 87 = .ok (.lstore_n 2, 1) := by decide +kernel
theorem dX4_findUses_88 : decode cX4_findUses 88 = .ok (.iinc 4 (-1), 3) := by decide +kernel
theorem dX4_findUses_91 : decode cX4_findUses 91 = .ok (.goto (-31), 3) := by decide +kernel
theorem dX4_findUses_94 : decode cX4_findUses 94 = .ok (.iinc 1 1, 3) := by decide +kernel
theorem dX4_findUses_97 : decode cX4_findUses 97 = .ok (.goto (-68), 3) := by decide +kernel
theorem dX4_findUses_100 : decode cX4_findUses 100 = .ok (.return_, 1) := by decide +kernel
theorem dX4_firstFault_0 : decode cX4_firstFault 0 = .ok (.aload_n 0, 1) := by decide +kernel
theorem dX4_firstFault_1 : decode cX4_firstFault 1 = .ok (.aload_n 1, 1) := by decide +kernel
theorem dX4_firstFault_2 : decode cX4_firstFault 2 = .ok (.putfield 54, 3) := by decide +kernel
theorem dX4_firstFault_5 : decode cX4_firstFault 5 = .ok (.aload_n 0, 1) := by decide +kernel
theorem dX4_firstFault_6 : decode cX4_firstFault 6 = .ok (.iconst (-1), 1) := by decide +kernel
theorem dX4_firstFault_7 : decode cX4_firstFault 7 = .ok (.putfield 58, 3) := by decide +kernel
theorem dX4_firstFault_10 : decode cX4_firstFault 10 = .ok (.aload_n 0, 1) := by decide +kernel
theorem dX4_firstFault_11 : decode cX4_firstFault 11 = .ok (.getfield 54, 3) := by decide +kernel
theorem dX4_firstFault_14 : decode cX4_firstFault 14 = .ok (.getfield 62, 3) := by decide +kernel
theorem dX4_firstFault_17 : decode cX4_firstFault 17 = .ok (.ifCond .ne 25, 3) := by decide +kernel
theorem dX4_firstFault_20 : decode cX4_firstFault 20 = .ok (.aload_n 0, 1) := by decide +kernel
theorem dX4_firstFault_21 : decode cX4_firstFault 21 = .ok (.getfield 42, 3) := by decide +kernel
theorem dX4_firstFault_24 : decode cX4_firstFault 24 = .ok (.aload_n 0, 1) := by decide +kernel
theorem dX4_firstFault_25 : decode cX4_firstFault 25 = .ok (.getfield 54, 3) := by decide +kernel
theorem dX4_firstFault_28 : decode cX4_firstFault 28 = .ok (.getfield 67, 3) := by decide +kernel
theorem dX4_firstFault_31 : decode cX4_firstFault 31 = .ok (.invokevirtual 70, 3) := by decide +kernel
theorem dX4_firstFault_34 : decode cX4_firstFault 34 = .ok (.ifCond .ne 8, 3) := by decide +kernel
theorem dX4_firstFault_37 : decode cX4_firstFault 37 = .ok (.aload_n 0, 1) := by decide +kernel
theorem dX4_firstFault_38 : decode cX4_firstFault 38 = .ok (.getfield 58, 3) := by decide +kernel
theorem dX4_firstFault_41 : decode cX4_firstFault 41 = .ok (.ireturn, 1) := by decide +kernel
theorem dX4_firstFault_42 : decode cX4_firstFault 42 = .ok (.aload_n 0, 1) := by decide +kernel
theorem dX4_firstFault_43 : decode cX4_firstFault 43 = .ok (.invokevirtual 76, 3) := by decide +kernel
theorem dX4_firstFault_46 : decode cX4_firstFault 46 = .ok (.aload_n 0, 1) := by decide +kernel
theorem dX4_firstFault_47 : decode cX4_firstFault 47 = .ok (.invokevirtual 79, 3) := by decide +kernel
theorem dX4_firstFault_50 : decode cX4_firstFault 50 = .ok (.aload_n 0, 1) := by decide +kernel
theorem dX4_firstFault_51 : decode cX4_firstFault 51 = .ok (.getfield 22, 3) := by decide +kernel
theorem dX4_firstFault_54 : decode cX4_firstFault 54 = .ok (.aload_n 0, 1) := by decide +kernel
theorem dX4_firstFault_55 : decode cX4_firstFault 55 = .ok (.getfield 54, 3) := by decide +kernel
theorem dX4_firstFault_58 : decode cX4_firstFault 58 = .ok (.getfield 82, 3) := by decide +kernel
theorem dX4_firstFault_61 : decode cX4_firstFault 61 = .ok (.bipush 40, 2) := by decide +kernel
theorem dX4_firstFault_63 : decode cX4_firstFault 63 = .ok (.imul, 1) := by decide +kernel
theorem dX4_firstFault_64 : decode cX4_firstFault 64 = .ok (.aload_n 0, 1) := by decide +kernel
theorem dX4_firstFault_65 : decode cX4_firstFault 65 = .ok (.getfield 54, 3) := by decide +kernel
theorem dX4_firstFault_68 : decode cX4_firstFault 68 = .ok (.getfield 85, 3) := by decide +kernel
theorem dX4_firstFault_71 : decode cX4_firstFault 71 = .ok (.bipush 40, 2) := by decide +kernel
theorem dX4_firstFault_73 : decode cX4_firstFault 73 = .ok (.imul, 1) := by decide +kernel
theorem dX4_firstFault_74 : decode cX4_firstFault 74 = .ok (.lconst 0, 1) := by decide +kernel
theorem dX4_firstFault_75 : decode cX4_firstFault 75 = .ok (.invokestatic 88, 3) := by decide +kernel
theorem dX4_firstFault_78 : decode cX4_firstFault 78 = .ok (.aload_n 0, 1) := by decide +kernel
theorem dX4_firstFault_79 : decode cX4_firstFault 79 = .ok (.getfield 54, 3) := by decide +kernel
theorem dX4_firstFault_82 : decode cX4_firstFault 82 = .ok (.getfield 82, 3) := by decide +kernel
theorem dX4_firstFault_85 : decode cX4_firstFault 85 = .ok (.istore_n 2, 1) := by decide +kernel
theorem dX4_firstFault_86 : decode cX4_firstFault 86 = .ok (.iload_n 2, 1) := by decide +kernel
theorem dX4_firstFault_87 : decode cX4_firstFault 87 = .ok (.aload_n 0, 1) := by decide +kernel
theorem dX4_firstFault_88 : decode cX4_firstFault 88 = .ok (.getfield 54, 3) := by decide +kernel
theorem dX4_firstFault_91 : decode cX4_firstFault 91 = .ok (.getfield 85, 3) := by decide +kernel
theorem dX4_firstFault_94 : decode cX4_firstFault 94 = .ok (.if_icmp .ge 16, 3) := by decide +kernel
theorem dX4_firstFault_97 : decode cX4_firstFault 97 = .ok (.aload_n 0, 1) := by decide +kernel
theorem dX4_firstFault_98 : decode cX4_firstFault 98 = .ok (.getfield 25, 3) := by decide +kernel
theorem dX4_firstFault_101 : decode cX4_firstFault 101 = .ok (.iload_n 2, 1) := by decide +kernel
theorem dX4_firstFault_102 : decode cX4_firstFault 102 = .ok (.iconst 0, 1) := by decide +kernel
theorem dX4_firstFault_103 : decode cX4_firstFault 103 = .ok (.bastore, 1) := by decide +kernel
theorem dX4_firstFault_104 : decode cX4_firstFault 104 = .ok (.iinc 2 1, 3) := by decide +kernel
theorem dX4_firstFault_107 : decode cX4_firstFault 107 = .ok (.goto (-21), 3) := by decide +kernel
theorem dX4_firstFault_110 : decode cX4_firstFault 110 = .ok (.aload_n 0, 1) := by decide +kernel
theorem dX4_firstFault_111 : decode cX4_firstFault 111 = .ok (.iconst 1, 1) := by decide +kernel
theorem dX4_firstFault_112 : decode cX4_firstFault 112 = .ok (.putfield 94, 3) := by decide +kernel
theorem dX4_firstFault_115 : decode cX4_firstFault 115 = .ok (.iconst 0, 1) := by decide +kernel
theorem dX4_firstFault_116 : decode cX4_firstFault 116 = .ok (.istore_n 2, 1) := by decide +kernel
theorem dX4_firstFault_117 : decode cX4_firstFault 117 = .ok (.iload_n 2, 1) := by decide +kernel
theorem dX4_firstFault_118 : decode cX4_firstFault 118 = .ok (.ldc 98, 2) := by decide +kernel
theorem dX4_firstFault_120 : decode cX4_firstFault 120 = .ok (.if_icmp .ge 25, 3) := by decide +kernel
theorem dX4_firstFault_123 : decode cX4_firstFault 123 = .ok (.aload_n 0, 1) := by decide +kernel
theorem dX4_firstFault_124 : decode cX4_firstFault 124 = .ok (.getfield 94, 3) := by decide +kernel
theorem dX4_firstFault_127 : decode cX4_firstFault 127 = .ok (.ifCond .eq 18, 3) := by decide +kernel
theorem dX4_firstFault_130 : decode cX4_firstFault 130 = .ok (.aload_n 0, 1) := by decide +kernel
theorem dX4_firstFault_131 : decode cX4_firstFault 131 = .ok (.iconst 0, 1) := by decide +kernel
theorem dX4_firstFault_132 : decode cX4_firstFault 132 = .ok (.putfield 94, 3) := by decide +kernel
theorem dX4_firstFault_135 : decode cX4_firstFault 135 = .ok (.aload_n 0, 1) := by decide +kernel
theorem dX4_firstFault_136 : decode cX4_firstFault 136 = .ok (.invokevirtual 99, 3) := by decide +kernel
theorem dX4_firstFault_139 : decode cX4_firstFault 139 = .ok (.iinc 2 1, 3) := by decide +kernel
theorem dX4_firstFault_142 : decode cX4_firstFault 142 = .ok (.goto (-25), 3) := by decide +kernel
theorem dX4_firstFault_145 : decode cX4_firstFault 145 = .ok (.aload_n 0, 1) := by decide +kernel
theorem dX4_firstFault_146 : decode cX4_firstFault 146 = .ok (.getfield 58, 3) := by decide +kernel
theorem dX4_firstFault_149 : decode cX4_firstFault 149 = .ok (.ireturn, 1) := by decide +kernel
theorem dX4_flow_0 : decode cX4_flow 0 = .ok (.aload_n 0, 1) := by decide +kernel
theorem dX4_flow_1 : decode cX4_flow 1 = .ok (.getfield 46, 3) := by decide +kernel
theorem dX4_flow_4 : decode cX4_flow 4 = .ok (.getfield 123, 3) := by decide +kernel
theorem dX4_flow_7 : decode cX4_flow 7 = .ok (.iload_n 1, 1) := by decide +kernel
theorem dX4_flow_8 : decode cX4_flow 8 = .ok (.iaload, 1) := by decide +kernel
theorem dX4_flow_9 : decode cX4_flow 9 = .ok (.istore_n 2, 1) := by decide +kernel
theorem dX4_flow_10 : decode cX4_flow 10 = .ok (.aload_n 0, 1) := by decide +kernel
theorem dX4_flow_11 : decode cX4_flow 11 = .ok (.getfield 46, 3) := by decide +kernel
theorem dX4_flow_14 : decode cX4_flow 14 = .ok (.getfield 115, 3) := by decide +kernel
theorem dX4_flow_17 : decode cX4_flow 17 = .ok (.iload_n 1, 1) := by decide +kernel
theorem dX4_flow_18 : decode cX4_flow 18 = .ok (.iaload, 1) := by decide +kernel
theorem dX4_flow_19 : decode cX4_flow 19 = .ok (.tableswitch 157 15 20 #[66, 52, 37, 37, 37, 98], 37) := by decide +kernel
theorem dX4_flow_56 : decode cX4_flow 56 = .ok (.aload_n 0, 1) := by decide +kernel
theorem dX4_flow_57 : decode cX4_flow 57 = .ok (.iconst 1, 1) := by decide +kernel
theorem dX4_flow_58 : decode cX4_flow 58 = .ok (.invokevirtual 193, 3) := by decide +kernel
theorem dX4_flow_61 : decode cX4_flow 61 = .ok (.pop2, 1) := by decide +kernel
theorem dX4_flow_62 : decode cX4_flow 62 = .ok (.aload_n 0, 1) := by decide +kernel
theorem dX4_flow_63 : decode cX4_flow 63 = .ok (.iload_n 2, 1) := by decide +kernel
theorem dX4_flow_64 : decode cX4_flow 64 = .ok (.invokevirtual 218, 3) := by decide +kernel
theorem dX4_flow_67 : decode cX4_flow 67 = .ok (.pop, 1) := by decide +kernel
theorem dX4_flow_68 : decode cX4_flow 68 = .ok (.goto 108, 3) := by decide +kernel
theorem dX4_flow_71 : decode cX4_flow 71 = .ok (.aload_n 0, 1) := by decide +kernel
theorem dX4_flow_72 : decode cX4_flow 72 = .ok (.iload_n 2, 1) := by decide +kernel
theorem dX4_flow_73 : decode cX4_flow 73 = .ok (.invokevirtual 218, 3) := by decide +kernel
theorem dX4_flow_76 : decode cX4_flow 76 = .ok (.pop, 1) := by decide +kernel
theorem dX4_flow_77 : decode cX4_flow 77 = .ok (.aload_n 0, 1) := by decide +kernel
theorem dX4_flow_78 : decode cX4_flow 78 = .ok (.iconst 0, 1) := by decide +kernel
theorem dX4_flow_79 : decode cX4_flow 79 = .ok (.putfield 151, 3) := by decide +kernel
theorem dX4_flow_82 : decode cX4_flow 82 = .ok (.goto 94, 3) := by decide +kernel
theorem dX4_flow_85 : decode cX4_flow 85 = .ok (.aload_n 0, 1) := by decide +kernel
theorem dX4_flow_86 : decode cX4_flow 86 = .ok (.aload_n 0, 1) := by decide +kernel
theorem dX4_flow_87 : decode cX4_flow 87 = .ok (.iload_n 2, 1) := by decide +kernel
theorem dX4_flow_88 : decode cX4_flow 88 = .ok (.invokevirtual 218, 3) := by decide +kernel
theorem dX4_flow_91 : decode cX4_flow 91 = .ok (.ifCond .ne 10, 3) := by decide +kernel
theorem dX4_flow_94 : decode cX4_flow 94 = .ok (.aload_n 0, 1) := by decide +kernel
theorem dX4_flow_95 : decode cX4_flow 95 = .ok (.getfield 94, 3) := by decide +kernel
theorem dX4_flow_98 : decode cX4_flow 98 = .ok (.ifCond .eq 7, 3) := by decide +kernel
theorem dX4_flow_101 : decode cX4_flow 101 = .ok (.iconst 1, 1) := by decide +kernel
theorem dX4_flow_102 : decode cX4_flow 102 = .ok (.goto 4, 3) := by decide +kernel
theorem dX4_flow_105 : decode cX4_flow 105 = .ok (.iconst 0, 1) := by decide +kernel
theorem dX4_flow_106 : decode cX4_flow 106 = .ok (.putfield 94, 3) := by decide +kernel
theorem dX4_flow_109 : decode cX4_flow 109 = .ok (.aload_n 0, 1) := by decide +kernel
theorem dX4_flow_110 : decode cX4_flow 110 = .ok (.iconst 0, 1) := by decide +kernel
theorem dX4_flow_111 : decode cX4_flow 111 = .ok (.putfield 151, 3) := by decide +kernel
theorem dX4_flow_114 : decode cX4_flow 114 = .ok (.goto 62, 3) := by decide +kernel
theorem dX4_flow_117 : decode cX4_flow 117 = .ok (.aload_n 0, 1) := by decide +kernel
theorem dX4_flow_118 : decode cX4_flow 118 = .ok (.iconst 1, 1) := by decide +kernel
theorem dX4_flow_119 : decode cX4_flow 119 = .ok (.invokevirtual 193, 3) := by decide +kernel
theorem dX4_flow_122 : decode cX4_flow 122 = .ok (.pop2, 1) := by decide +kernel
theorem dX4_flow_123 : decode cX4_flow 123 = .ok (.iconst 0, 1) := by decide +kernel
theorem dX4_flow_124 : decode cX4_flow 124 = .ok (.istore_n 3, 1) := by decide +kernel
theorem dX4_flow_125 : decode cX4_flow 125 = .ok (.iload_n 3, 1) := by decide +kernel
theorem dX4_flow_126 : decode cX4_flow 126 = .ok (.aload_n 0, 1) := by decide +kernel
theorem dX4_flow_127 : decode cX4_flow 127 = .ok (.getfield 46, 3) := by decide +kernel
theorem dX4_flow_130 : decode cX4_flow 130 = .ok (.getfield 129, 3) := by decide +kernel
theorem dX4_flow_133 : decode cX4_flow 133 = .ok (.iload_n 1, 1) := by decide +kernel
theorem dX4_flow_134 : decode cX4_flow 134 = .ok (.iaload, 1) := by decide +kernel
theorem dX4_flow_135 : decode cX4_flow 135 = .ok (.if_icmp .ge 33, 3) := by decide +kernel
theorem dX4_flow_138 : decode cX4_flow 138 = .ok (.aload_n 0, 1) := by decide +kernel
theorem dX4_flow_139 : decode cX4_flow 139 = .ok (.aload_n 0, 1) := by decide +kernel
theorem dX4_flow_140 : decode cX4_flow 140 = .ok (.getfield 46, 3) := by decide +kernel
theorem dX4_flow_143 : decode cX4_flow 143 = .ok (.getfield 148, 3) := by decide +kernel
theorem dX4_flow_146 : decode cX4_flow 146 = .ok (.aload_n 0, 1) := by decide +kernel
theorem dX4_flow_147 : decode cX4_flow 147 = .ok (.getfield 46, 3) := by decide +kernel
theorem dX4_flow_150 : decode cX4_flow 150 = .ok (.getfield 123, 3) := by decide +kernel
theorem dX4_flow_153 : decode cX4_flow 153 = .ok (.iload_n 1, 1) := by decide +kernel
theorem dX4_flow_154 : decode cX4_flow 154 = .ok (.iaload, 1) := by decide +kernel
theorem dX4_flow_155 : decode cX4_flow 155 = .ok (.iload_n 3, 1) := by decide +kernel
theorem dX4_flow_156 : decode cX4_flow 156 = .ok (.iadd, 1) := by decide +kernel
theorem dX4_flow_157 : decode cX4_flow 157 = .ok (.iaload, 1) := by decide +kernel
theorem dX4_flow_158 : decode cX4_flow 158 = .ok (.invokevirtual 218, 3) := by decide +kernel
theorem dX4_flow_161 : decode cX4_flow 161 = .ok (.pop, 1) := by decide +kernel
theorem dX4_flow_162 : decode cX4_flow 162 = .ok (.iinc 3 1, 3) := by decide +kernel
theorem dX4_flow_165 : decode cX4_flow 165 = .ok (.goto (-40), 3) := by decide +kernel
theorem dX4_flow_168 : decode cX4_flow 168 = .ok (.aload_n 0, 1) := by decide +kernel
theorem dX4_flow_169 : decode cX4_flow 169 = .ok (.iconst 0, 1) := by decide +kernel
theorem dX4_flow_170 : decode cX4_flow 170 = .ok (.putfield 151, 3) := by decide +kernel
theorem dX4_flow_173 : decode cX4_flow 173 = .ok (.goto 3, 3) := by decide +kernel
theorem dX4_flow_176 : decode cX4_flow 176 = .ok (.return_, 1) := by decide +kernel
theorem dX4_gatherLoans_0 : decode cX4_gatherLoans 0 = .ok (.aload_n 0, 1) := by decide +kernel
theorem dX4_gatherLoans_1 : decode cX4_gatherLoans 1 = .ok (.lconst 0, 1) := by decide +kernel
theorem dX4_gatherLoans_2 : decode cX4_gatherLoans 2 = .ok (.putfield 102, 3) := by decide +kernel
theorem dX4_gatherLoans_5 : decode cX4_gatherLoans 5 = .ok (.aload_n 0, 1) := by decide +kernel
theorem dX4_gatherLoans_6 : decode cX4_gatherLoans 6 = .ok (.getfield 39, 3) := by decide +kernel
theorem dX4_gatherLoans_9 : decode cX4_gatherLoans 9 = .ok (.lconst 0, 1) := by decide +kernel
theorem dX4_gatherLoans_10 : decode cX4_gatherLoans 10 = .ok (.invokestatic 106, 3) := by decide +kernel
theorem dX4_gatherLoans_13 : decode cX4_gatherLoans 13 = .ok (.aload_n 0, 1) := by decide +kernel
theorem dX4_gatherLoans_14 : decode cX4_gatherLoans 14 = .ok (.getfield 54, 3) := by decide +kernel
theorem dX4_gatherLoans_17 : decode cX4_gatherLoans 17 = .ok (.getfield 109, 3) := by decide +kernel
theorem dX4_gatherLoans_20 : decode cX4_gatherLoans 20 = .ok (.istore_n 1, 1) := by decide +kernel
theorem dX4_gatherLoans_21 : decode cX4_gatherLoans 21 = .ok (.iload_n 1, 1) := by decide +kernel
theorem dX4_gatherLoans_22 : decode cX4_gatherLoans 22 = .ok (.aload_n 0, 1) := by decide +kernel
theorem dX4_gatherLoans_23 : decode cX4_gatherLoans 23 = .ok (.getfield 54, 3) := by decide +kernel
theorem dX4_gatherLoans_26 : decode cX4_gatherLoans 26 = .ok (.getfield 112, 3) := by decide +kernel
theorem dX4_gatherLoans_29 : decode cX4_gatherLoans 29 = .ok (.if_icmp .ge 109, 3) := by decide +kernel
theorem dX4_gatherLoans_32 : decode cX4_gatherLoans 32 = .ok (.aload_n 0, 1) := by decide +kernel
theorem dX4_gatherLoans_33 : decode cX4_gatherLoans 33 = .ok (.getfield 46, 3) := by decide +kernel
theorem dX4_gatherLoans_36 : decode cX4_gatherLoans 36 = .ok (.getfield 115, 3) := by decide +kernel
theorem dX4_gatherLoans_39 : decode cX4_gatherLoans 39 = .ok (.iload_n 1, 1) := by decide +kernel
theorem dX4_gatherLoans_40 : decode cX4_gatherLoans 40 = .ok (.iaload, 1) := by decide +kernel
theorem dX4_gatherLoans_41 : decode cX4_gatherLoans 41 = .ok (.iconst 4, 1) := by decide +kernel
theorem dX4_gatherLoans_42 : decode cX4_gatherLoans 42 = .ok (.if_icmp .ne 90, 3) := by decide +kernel
theorem dX4_gatherLoans_45 : decode cX4_gatherLoans 45 = .ok (.lconst 1, 1) := by decide +kernel
theorem dX4_gatherLoans_46 : decode cX4_gatherLoans 46 = .ok (.aload_n 0, 1) := by decide +kernel
theorem dX4_gatherLoans_47 : decode cX4_gatherLoans 47 = .ok (.getfield 46, 3) := by decide +kernel
theorem dX4_gatherLoans_50 : decode cX4_gatherLoans 50 = .ok (.getfield 120, 3) := by decide +kernel
theorem dX4_gatherLoans_53 : decode cX4_gatherLoans 53 = .ok (.iload_n 1, 1) := by decide +kernel
theorem dX4_gatherLoans_54 : decode cX4_gatherLoans 54 = .ok (.iaload, 1) := by decide +kernel
theorem dX4_gatherLoans_55 : decode cX4_gatherLoans 55 = .ok (.lshl, 1) := by decide +kernel
theorem dX4_gatherLoans_56 : decode cX4_gatherLoans 56 = .ok (.lstore_n 2, 1) := by decide +kernel
theorem dX4_gatherLoans_57 : decode cX4_gatherLoans 57 = .ok (.aload_n 0, 1) := by decide +kernel
theorem dX4_gatherLoans_58 : decode cX4_gatherLoans 58 = .ok (.getfield 32, 3) := by decide +kernel
theorem dX4_gatherLoans_61 : decode cX4_gatherLoans 61 = .ok (.aload_n 0, 1) := by decide +kernel
theorem dX4_gatherLoans_62 : decode cX4_gatherLoans 62 = .ok (.getfield 46, 3) := by decide +kernel
theorem dX4_gatherLoans_65 : decode cX4_gatherLoans 65 = .ok (.getfield 120, 3) := by decide +kernel
theorem dX4_gatherLoans_68 : decode cX4_gatherLoans 68 = .ok (.iload_n 1, 1) := by decide +kernel
theorem dX4_gatherLoans_69 : decode cX4_gatherLoans 69 = .ok (.iaload, 1) := by decide +kernel
theorem dX4_gatherLoans_70 : decode cX4_gatherLoans 70 = .ok (.aload_n 0, 1) := by decide +kernel
theorem dX4_gatherLoans_71 : decode cX4_gatherLoans 71 = .ok (.getfield 46, 3) := by decide +kernel
theorem dX4_gatherLoans_74 : decode cX4_gatherLoans 74 = .ok (.getfield 123, 3) := by decide +kernel
theorem dX4_gatherLoans_77 : decode cX4_gatherLoans 77 = .ok (.iload_n 1, 1) := by decide +kernel
theorem dX4_gatherLoans_78 : decode cX4_gatherLoans 78 = .ok (.iaload, 1) := by decide +kernel
theorem dX4_gatherLoans_79 : decode cX4_gatherLoans 79 = .ok (.iastore, 1) := by decide +kernel
theorem dX4_gatherLoans_80 : decode cX4_gatherLoans 80 = .ok (.aload_n 0, 1) := by decide +kernel
theorem dX4_gatherLoans_81 : decode cX4_gatherLoans 81 = .ok (.getfield 39, 3) := by decide +kernel
theorem dX4_gatherLoans_84 : decode cX4_gatherLoans 84 = .ok (.aload_n 0, 1) := by decide +kernel
theorem dX4_gatherLoans_85 : decode cX4_gatherLoans 85 = .ok (.getfield 46, 3) := by decide +kernel
theorem dX4_gatherLoans_88 : decode cX4_gatherLoans 88 = .ok (.getfield 126, 3) := by decide +kernel
theorem dX4_gatherLoans_91 : decode cX4_gatherLoans 91 = .ok (.aload_n 0, 1) := by decide +kernel
theorem dX4_gatherLoans_92 : decode cX4_gatherLoans 92 = .ok (.getfield 46, 3) := by decide +kernel
theorem dX4_gatherLoans_95 : decode cX4_gatherLoans 95 = .ok (.getfield 123, 3) := by decide +kernel
theorem dX4_gatherLoans_98 : decode cX4_gatherLoans 98 = .ok (.iload_n 1, 1) := by decide +kernel
theorem dX4_gatherLoans_99 : decode cX4_gatherLoans 99 = .ok (.iaload, 1) := by decide +kernel
theorem dX4_gatherLoans_100 : decode cX4_gatherLoans 100 = .ok (.iaload, 1) := by decide +kernel
theorem dX4_gatherLoans_101 : decode cX4_gatherLoans 101 = .ok (.dup2, 1) := by decide +kernel
theorem dX4_gatherLoans_102 : decode cX4_gatherLoans 102 = .ok (.laload, 1) := by decide +kernel
theorem dX4_gatherLoans_103 : decode cX4_gatherLoans 103 = .ok (.lload_n 2, 1) := by decide +kernel
theorem dX4_gatherLoans_104 : decode cX4_gatherLoans 104 = .ok (.lor, 1) := by decide +kernel
theorem dX4_gatherLoans_105 : decode cX4_gatherLoans 105 = .ok (.lastore, 1) := by decide +kernel
theorem dX4_gatherLoans_106 : decode cX4_gatherLoans 106 = .ok (.aload_n 0, 1) := by decide +kernel
theorem dX4_gatherLoans_107 : decode cX4_gatherLoans 107 = .ok (.dup, 1) := by decide +kernel
theorem dX4_gatherLoans_108 : decode cX4_gatherLoans 108 = .ok (.getfield 102, 3) := by decide +kernel
theorem dX4_gatherLoans_111 : decode cX4_gatherLoans 111 = .ok (.aload_n 0, 1) := by decide +kernel
theorem dX4_gatherLoans_112 : decode cX4_gatherLoans 112 = .ok (.getfield 46, 3) := by decide +kernel
theorem dX4_gatherLoans_115 : decode cX4_gatherLoans 115 = .ok (.getfield 129, 3) := by decide +kernel
theorem dX4_gatherLoans_118 : decode cX4_gatherLoans 118 = .ok (.iload_n 1, 1) := by decide +kernel
theorem dX4_gatherLoans_119 : decode cX4_gatherLoans 119 = .ok (.iaload, 1) := by decide +kernel
theorem dX4_gatherLoans_120 : decode cX4_gatherLoans 120 = .ok (.ifCond .ne 7, 3) := by decide +kernel
theorem dX4_gatherLoans_123 : decode cX4_gatherLoans 123 = .ok (.lload_n 2, 1) := by decide +kernel
theorem dX4_gatherLoans_124 : decode cX4_gatherLoans 124 = .ok (.goto 4, 3) := by decide +kernel
theorem dX4_gatherLoans_127 : decode cX4_gatherLoans 127 = .ok (.lconst 0, 1) := by decide +kernel
theorem dX4_gatherLoans_128 : decode cX4_gatherLoans 128 = .ok (.lor, 1) := by decide +kernel
theorem dX4_gatherLoans_129 : decode cX4_gatherLoans 129 = .ok (.putfield 102, 3) := by decide +kernel
theorem dX4_gatherLoans_132 : decode cX4_gatherLoans 132 = .ok (.iinc 1 1, 3) := by decide +kernel
theorem dX4_gatherLoans_135 : decode cX4_gatherLoans 135 = .ok (.goto (-114), 3) := by decide +kernel
theorem dX4_gatherLoans_138 : decode cX4_gatherLoans 138 = .ok (.return_, 1) := by decide +kernel
theorem dX4_giveBack_0 : decode cX4_giveBack 0 = .ok (.aload_n 0, 1) := by decide +kernel
theorem dX4_giveBack_1 : decode cX4_giveBack 1 = .ok (.getfield 46, 3) := by decide +kernel
theorem dX4_giveBack_4 : decode cX4_giveBack 4 = .ok (.getfield 120, 3) := by decide +kernel
theorem dX4_giveBack_7 : decode cX4_giveBack 7 = .ok (.iload_n 1, 1) := by decide +kernel
theorem dX4_giveBack_8 : decode cX4_giveBack 8 = .ok (.iaload, 1) := by decide +kernel
theorem dX4_giveBack_9 : decode cX4_giveBack 9 = .ok (.iconst 1, 1) := by decide +kernel
theorem dX4_giveBack_10 : decode cX4_giveBack 10 = .ok (.if_icmp .ne 11, 3) := by decide +kernel
theorem dX4_giveBack_13 : decode cX4_giveBack 13 = .ok (.aload_n 0, 1) := by decide +kernel
theorem dX4_giveBack_14 : decode cX4_giveBack 14 = .ok (.iconst 1, 1) := by decide +kernel
theorem dX4_giveBack_15 : decode cX4_giveBack 15 = .ok (.invokevirtual 193, 3) := by decide +kernel
theorem dX4_giveBack_18 : decode cX4_giveBack 18 = .ok (.goto 4, 3) := by decide +kernel
theorem dX4_giveBack_21 : decode cX4_giveBack 21 = .ok (.lconst 0, 1) := by decide +kernel
theorem dX4_giveBack_22 : decode cX4_giveBack 22 = .ok (.lstore_n 2, 1) := by decide +kernel
theorem dX4_giveBack_23 : decode cX4_giveBack 23 = .ok (.aload_n 0, 1) := by decide +kernel
theorem dX4_giveBack_24 : decode cX4_giveBack 24 = .ok (.getfield 54, 3) := by decide +kernel
theorem dX4_giveBack_27 : decode cX4_giveBack 27 = .ok (.getfield 221, 3) := by decide +kernel
theorem dX4_giveBack_30 : decode cX4_giveBack 30 = .ok (.ifCond .lt 47, 3) := by decide +kernel
theorem dX4_giveBack_33 : decode cX4_giveBack 33 = .ok (.lload_n 2, 1) := by decide +kernel
theorem dX4_giveBack_34 : decode cX4_giveBack 34 = .ok (.bipush 54, 2) := by decide +kernel
theorem dX4_giveBack_36 : decode cX4_giveBack 36 = .ok (.lushr, 1) := by decide +kernel
theorem dX4_giveBack_37 : decode cX4_giveBack 37 = .ok (.bipush 54, 2) := by decide +kernel
theorem dX4_giveBack_39 : decode cX4_giveBack 39 = .ok (.lshl, 1) := by decide +kernel
theorem dX4_giveBack_40 : decode cX4_giveBack 40 = .ok (.aload_n 0, 1) := by decide +kernel
theorem dX4_giveBack_41 : decode cX4_giveBack 41 = .ok (.getfield 54, 3) := by decide +kernel
theorem dX4_giveBack_44 : decode cX4_giveBack 44 = .ok (.getfield 221, 3) := by decide +kernel
theorem dX4_giveBack_47 : decode cX4_giveBack 47 = .ok (.invokestatic 169, 3) := by decide +kernel
theorem dX4_giveBack_50 : decode cX4_giveBack 50 = .ok (.ldc2_w 142, 3) := by decide +kernel
theorem dX4_giveBack_53 : decode cX4_giveBack 53 = .ok (.lxor, 1) := by decide +kernel
theorem dX4_giveBack_54 : decode cX4_giveBack 54 = .ok (.land, 1) := by decide +kernel
theorem dX4_giveBack_55 : decode cX4_giveBack 55 = .ok (.lstore 4, 2) := by decide +kernel
theorem dX4_giveBack_57 : decode cX4_giveBack 57 = .ok (.lload 4, 2) := by decide +kernel
theorem dX4_giveBack_59 : decode cX4_giveBack 59 = .ok (.lconst 0, 1) := by decide +kernel
theorem dX4_giveBack_60 : decode cX4_giveBack 60 = .ok (.lcmp, 1) := by decide +kernel
theorem dX4_giveBack_61 : decode cX4_giveBack 61 = .ok (.ifCond .eq 16, 3) := by decide +kernel
theorem dX4_giveBack_64 : decode cX4_giveBack 64 = .ok (.aload_n 0, 1) := by decide +kernel
theorem dX4_giveBack_65 : decode cX4_giveBack 65 = .ok (.aload_n 0, 1) := by decide +kernel
theorem dX4_giveBack_66 : decode cX4_giveBack 66 = .ok (.getfield 46, 3) := by decide +kernel
theorem dX4_giveBack_69 : decode cX4_giveBack 69 = .ok (.getfield 129, 3) := by decide +kernel
theorem dX4_giveBack_72 : decode cX4_giveBack 72 = .ok (.iload_n 1, 1) := by decide +kernel
theorem dX4_giveBack_73 : decode cX4_giveBack 73 = .ok (.iaload, 1) := by decide +kernel
theorem dX4_giveBack_74 : decode cX4_giveBack 74 = .ok (.invokevirtual 230, 3) := by decide +kernel
theorem dX4_giveBack_77 : decode cX4_giveBack 77 = .ok (.aload_n 0, 1) := by decide +kernel
theorem dX4_giveBack_78 : decode cX4_giveBack 78 = .ok (.getfield 54, 3) := by decide +kernel
theorem dX4_giveBack_81 : decode cX4_giveBack 81 = .ok (.getfield 157, 3) := by decide +kernel
theorem dX4_giveBack_84 : decode cX4_giveBack 84 = .ok (.iconst 1, 1) := by decide +kernel
theorem dX4_giveBack_85 : decode cX4_giveBack 85 = .ok (.isub, 1) := by decide +kernel
theorem dX4_giveBack_86 : decode cX4_giveBack 86 = .ok (.istore 4, 2) := by decide +kernel
theorem dX4_giveBack_88 : decode cX4_giveBack 88 = .ok (.iload 4, 2) := by decide +kernel
theorem dX4_giveBack_90 : decode cX4_giveBack 90 = .ok (.ifCond .lt 96, 3) := by decide +kernel
theorem dX4_giveBack_93 : decode cX4_giveBack 93 = .ok (.aload_n 0, 1) := by decide +kernel
theorem dX4_giveBack_94 : decode cX4_giveBack 94 = .ok (.getfield 54, 3) := by decide +kernel
theorem dX4_giveBack_97 : decode cX4_giveBack 97 = .ok (.getfield 233, 3) := by decide +kernel
theorem dX4_giveBack_100 : decode cX4_giveBack 100 = .ok (.iload 4, 2) := by decide +kernel
theorem dX4_giveBack_102 : decode cX4_giveBack 102 = .ok (.iaload, 1) := by decide +kernel
theorem dX4_giveBack_103 : decode cX4_giveBack 103 = .ok (.iload_n 1, 1) := by decide +kernel
theorem dX4_giveBack_104 : decode cX4_giveBack 104 = .ok (.if_icmp .gt 21, 3) := by decide +kernel
theorem dX4_giveBack_107 : decode cX4_giveBack 107 = .ok (.iload_n 1, 1) := by decide +kernel
theorem dX4_giveBack_108 : decode cX4_giveBack 108 = .ok (.aload_n 0, 1) := by decide +kernel
theorem dX4_giveBack_109 : decode cX4_giveBack 109 = .ok (.getfield 54, 3) := by decide +kernel
theorem dX4_giveBack_112 : decode cX4_giveBack 112 = .ok (.getfield 236, 3) := by decide +kernel
theorem dX4_giveBack_115 : decode cX4_giveBack 115 = .ok (.iload 4, 2) := by decide +kernel
theorem dX4_giveBack_117 : decode cX4_giveBack 117 = .ok (.iaload, 1) := by decide +kernel
theorem dX4_giveBack_118 : decode cX4_giveBack 118 = .ok (.if_icmp .ge 7, 3) := by decide +kernel
theorem dX4_giveBack_121 : decode cX4_giveBack 121 = .ok (.iconst 1, 1) := by decide +kernel
theorem dX4_giveBack_122 : decode cX4_giveBack 122 = .ok (.goto 4, 3) := by decide +kernel
theorem dX4_giveBack_125 : decode cX4_giveBack 125 = .ok (.iconst 0, 1) := by decide +kernel
theorem dX4_giveBack_126 : decode cX4_giveBack 126 = .ok (.istore 5, 2) := by decide +kernel
theorem dX4_giveBack_128 : decode cX4_giveBack 128 = .ok (.iload 5, 2) := by decide +kernel
theorem dX4_giveBack_130 : decode cX4_giveBack 130 = .ok (.ifCond .eq 50, 3) := by decide +kernel
theorem dX4_giveBack_133 : decode cX4_giveBack 133 = .ok (.aload_n 0, 1) := by decide +kernel
theorem dX4_giveBack_134 : decode cX4_giveBack 134 = .ok (.getfield 42, 3) := by decide +kernel
theorem dX4_giveBack_137 : decode cX4_giveBack 137 = .ok (.aload_n 0, 1) := by decide +kernel
theorem dX4_giveBack_138 : decode cX4_giveBack 138 = .ok (.getfield 54, 3) := by decide +kernel
theorem dX4_giveBack_141 : decode cX4_giveBack 141 = .ok (.getfield 163, 3) := by decide +kernel
theorem dX4_giveBack_144 : decode cX4_giveBack 144 = .ok (.iload 4, 2) := by decide +kernel
theorem dX4_giveBack_146 : decode cX4_giveBack 146 = .ok (.iaload, 1) := by decide +kernel
theorem dX4_giveBack_147 : decode cX4_giveBack 147 = .ok (.invokevirtual 70, 3) := by decide +kernel
theorem dX4_giveBack_150 : decode cX4_giveBack 150 = .ok (.ifCond .ne 30, 3) := by decide +kernel
theorem dX4_giveBack_153 : decode cX4_giveBack 153 = .ok (.aload_n 0, 1) := by decide +kernel
theorem dX4_giveBack_154 : decode cX4_giveBack 154 = .ok (.getfield 39, 3) := by decide +kernel
theorem dX4_giveBack_157 : decode cX4_giveBack 157 = .ok (.iload 4, 2) := by decide +kernel
theorem dX4_giveBack_159 : decode cX4_giveBack 159 = .ok (.laload, 1) := by decide +kernel
theorem dX4_giveBack_160 : decode cX4_giveBack 160 = .ok (.lload_n 2, 1) := by decide +kernel
theorem dX4_giveBack_161 : decode cX4_giveBack 161 = .ok (.land, 1) := by decide +kernel
theorem dX4_giveBack_162 : decode cX4_giveBack 162 = .ok (.lconst 0, 1) := by decide +kernel
theorem dX4_giveBack_163 : decode cX4_giveBack 163 = .ok (.lcmp, 1) := by decide +kernel
theorem dX4_giveBack_164 : decode cX4_giveBack 164 = .ok (.ifCond .eq 16, 3) := by decide +kernel
theorem dX4_giveBack_167 : decode cX4_giveBack 167 = .ok (.aload_n 0, 1) := by decide +kernel
theorem dX4_giveBack_168 : decode cX4_giveBack 168 = .ok (.aload_n 0, 1) := by decide +kernel
theorem dX4_giveBack_169 : decode cX4_giveBack 169 = .ok (.getfield 46, 3) := by decide +kernel
theorem dX4_giveBack_172 : decode cX4_giveBack 172 = .ok (.getfield 227, 3) := by decide +kernel
theorem dX4_giveBack_175 : decode cX4_giveBack 175 = .ok (.iload_n 1, 1) := by decide +kernel
theorem dX4_giveBack_176 : decode cX4_giveBack 176 = .ok (.iaload, 1) := by decide +kernel
theorem dX4_giveBack_177 : decode cX4_giveBack 177 = .ok (.invokevirtual 230, 3) := by decide +kernel
theorem dX4_giveBack_180 : decode cX4_giveBack 180 = .ok (.iinc 4 (-1), 3) := by decide +kernel
theorem dX4_giveBack_183 : decode cX4_giveBack 183 = .ok (.goto (-95), 3) := by decide +kernel
theorem dX4_giveBack_186 : decode cX4_giveBack 186 = .ok (.aload_n 0, 1) := by decide +kernel
theorem dX4_giveBack_187 : decode cX4_giveBack 187 = .ok (.iconst 0, 1) := by decide +kernel
theorem dX4_giveBack_188 : decode cX4_giveBack 188 = .ok (.putfield 151, 3) := by decide +kernel
theorem dX4_giveBack_191 : decode cX4_giveBack 191 = .ok (.return_, 1) := by decide +kernel
theorem dX4_init_0 : decode cX4_init 0 = .ok (.aload_n 0, 1) := by decide +kernel
theorem dX4_init_1 : decode cX4_init 1 = .ok (.invokespecial 3, 3) := by decide +kernel
theorem dX4_init_4 : decode cX4_init 4 = .ok (.aload_n 0, 1) := by decide +kernel
theorem dX4_init_5 : decode cX4_init 5 = .ok (.sipush 6000, 3) := by decide +kernel
theorem dX4_init_8 : decode cX4_init 8 = .ok (.newarray .long, 2) := by decide +kernel
theorem dX4_init_10 : decode cX4_init 10 = .ok (.putfield 9, 3) := by decide +kernel
theorem dX4_init_13 : decode cX4_init 13 = .ok (.aload_n 0, 1) := by decide +kernel
theorem dX4_init_14 : decode cX4_init 14 = .ok (.sipush 1100, 3) := by decide +kernel
theorem dX4_init_17 : decode cX4_init 17 = .ok (.newarray .long, 2) := by decide +kernel
theorem dX4_init_19 : decode cX4_init 19 = .ok (.putfield 15, 3) := by decide +kernel
theorem dX4_init_22 : decode cX4_init 22 = .ok (.aload_n 0, 1) := by decide +kernel
theorem dX4_init_23 : decode cX4_init 23 = .ok (.bipush 40, 2) := by decide +kernel
theorem dX4_init_25 : decode cX4_init 25 = .ok (.newarray .long, 2) := by decide +kernel
theorem dX4_init_27 : decode cX4_init 27 = .ok (.putfield 18, 3) := by decide +kernel
theorem dX4_init_30 : decode cX4_init 30 = .ok (.aload_n 0, 1) := by decide +kernel
theorem dX4_init_31 : decode cX4_init 31 = .ok (.ldc 21, 2) := by decide +kernel
theorem dX4_init_33 : decode cX4_init 33 = .ok (.newarray .long, 2) := by decide +kernel
theorem dX4_init_35 : decode cX4_init 35 = .ok (.putfield 22, 3) := by decide +kernel
theorem dX4_init_38 : decode cX4_init 38 = .ok (.aload_n 0, 1) := by decide +kernel
theorem dX4_init_39 : decode cX4_init 39 = .ok (.sipush 1100, 3) := by decide +kernel
theorem dX4_init_42 : decode cX4_init 42 = .ok (.newarray .boolean, 2) := by decide +kernel
theorem dX4_init_44 : decode cX4_init 44 = .ok (.putfield 25, 3) := by decide +kernel
theorem dX4_init_47 : decode cX4_init 47 = .ok (.aload_n 0, 1) := by decide +kernel
theorem dX4_init_48 : decode cX4_init 48 = .ok (.sipush 512, 3) := by decide +kernel
theorem dX4_init_51 : decode cX4_init 51 = .ok (.newarray .long, 2) := by decide +kernel
theorem dX4_init_53 : decode cX4_init 53 = .ok (.putfield 29, 3) := by decide +kernel
theorem dX4_init_56 : decode cX4_init 56 = .ok (.aload_n 0, 1) := by decide +kernel
theorem dX4_init_57 : decode cX4_init 57 = .ok (.bipush 54, 2) := by decide +kernel
theorem dX4_init_59 : decode cX4_init 59 = .ok (.newarray .int, 2) := by decide +kernel
theorem dX4_init_61 : decode cX4_init 61 = .ok (.putfield 32, 3) := by decide +kernel
theorem dX4_init_64 : decode cX4_init 64 = .ok (.aload_n 0, 1) := by decide +kernel
theorem dX4_init_65 : decode cX4_init 65 = .ok (.bipush 54, 2) := by decide +kernel
theorem dX4_init_67 : decode cX4_init 67 = .ok (.newarray .long, 2) := by decide +kernel
theorem dX4_init_69 : decode cX4_init 69 = .ok (.putfield 36, 3) := by decide +kernel
theorem dX4_init_72 : decode cX4_init 72 = .ok (.aload_n 0, 1) := by decide +kernel
theorem dX4_init_73 : decode cX4_init 73 = .ok (.bipush 40, 2) := by decide +kernel
theorem dX4_init_75 : decode cX4_init 75 = .ok (.newarray .long, 2) := by decide +kernel
theorem dX4_init_77 : decode cX4_init 77 = .ok (.putfield 39, 3) := by decide +kernel
theorem dX4_init_80 : decode cX4_init 80 = .ok (.aload_n 0, 1) := by decide +kernel
theorem dX4_init_81 : decode cX4_init 81 = .ok (.aload_n 1, 1) := by decide +kernel
theorem dX4_init_82 : decode cX4_init 82 = .ok (.putfield 42, 3) := by decide +kernel
theorem dX4_init_85 : decode cX4_init 85 = .ok (.aload_n 0, 1) := by decide +kernel
theorem dX4_init_86 : decode cX4_init 86 = .ok (.aload_n 2, 1) := by decide +kernel
theorem dX4_init_87 : decode cX4_init 87 = .ok (.putfield 46, 3) := by decide +kernel
theorem dX4_init_90 : decode cX4_init 90 = .ok (.aload_n 0, 1) := by decide +kernel
theorem dX4_init_91 : decode cX4_init 91 = .ok (.aload_n 3, 1) := by decide +kernel
theorem dX4_init_92 : decode cX4_init 92 = .ok (.putfield 50, 3) := by decide +kernel
theorem dX4_init_95 : decode cX4_init 95 = .ok (.return_, 1) := by decide +kernel
theorem dX4_join_0 : decode cX4_join 0 = .ok (.aload_n 0, 1) := by decide +kernel
theorem dX4_join_1 : decode cX4_join 1 = .ok (.getfield 25, 3) := by decide +kernel
theorem dX4_join_4 : decode cX4_join 4 = .ok (.iload_n 1, 1) := by decide +kernel
theorem dX4_join_5 : decode cX4_join 5 = .ok (.baload, 1) := by decide +kernel
theorem dX4_join_6 : decode cX4_join 6 = .ok (.ifCond .ne 4, 3) := by decide +kernel
theorem dX4_join_9 : decode cX4_join 9 = .ok (.return_, 1) := by decide +kernel
theorem dX4_join_10 : decode cX4_join 10 = .ok (.iload_n 1, 1) := by decide +kernel
theorem dX4_join_11 : decode cX4_join 11 = .ok (.bipush 40, 2) := by decide +kernel
theorem dX4_join_13 : decode cX4_join 13 = .ok (.imul, 1) := by decide +kernel
theorem dX4_join_14 : decode cX4_join 14 = .ok (.istore_n 2, 1) := by decide +kernel
theorem dX4_join_15 : decode cX4_join 15 = .ok (.iconst 0, 1) := by decide +kernel
theorem dX4_join_16 : decode cX4_join 16 = .ok (.istore_n 3, 1) := by decide +kernel
theorem dX4_join_17 : decode cX4_join 17 = .ok (.iload_n 3, 1) := by decide +kernel
theorem dX4_join_18 : decode cX4_join 18 = .ok (.aload_n 0, 1) := by decide +kernel
theorem dX4_join_19 : decode cX4_join 19 = .ok (.getfield 54, 3) := by decide +kernel
theorem dX4_join_22 : decode cX4_join 22 = .ok (.getfield 157, 3) := by decide +kernel
theorem dX4_join_25 : decode cX4_join 25 = .ok (.if_icmp .ge 48, 3) := by decide +kernel
theorem dX4_join_28 : decode cX4_join 28 = .ok (.aload_n 0, 1) := by decide +kernel
theorem dX4_join_29 : decode cX4_join 29 = .ok (.getfield 18, 3) := by decide +kernel
theorem dX4_join_32 : decode cX4_join 32 = .ok (.iload_n 3, 1) := by decide +kernel
theorem dX4_join_33 : decode cX4_join 33 = .ok (.aload_n 0, 1) := by decide +kernel
theorem dX4_join_34 : decode cX4_join 34 = .ok (.getfield 151, 3) := by decide +kernel
theorem dX4_join_37 : decode cX4_join 37 = .ok (.ifCond .eq 21, 3) := by decide +kernel
theorem dX4_join_40 : decode cX4_join 40 = .ok (.aload_n 0, 1) := by decide +kernel
theorem dX4_join_41 : decode cX4_join 41 = .ok (.getfield 18, 3) := by decide +kernel
theorem dX4_join_44 : decode cX4_join 44 = .ok (.iload_n 3, 1) := by decide +kernel
theorem dX4_join_45 : decode cX4_join 45 = .ok (.laload, 1) := by decide +kernel
theorem dX4_join_46 : decode cX4_join 46 = .ok (.aload_n 0, 1) := by decide +kernel
theorem dX4_join_47 : decode cX4_join 47 = .ok (.getfield 22, 3) := by decide +kernel
theorem dX4_join_50 : decode cX4_join 50 = .ok (.iload_n 2, 1) := by decide +kernel
theorem dX4_join_51 : decode cX4_join 51 = .ok (.iload_n 3, 1) := by decide +kernel
theorem dX4_join_52 : decode cX4_join 52 = .ok (.iadd, 1) := by decide +kernel
theorem dX4_join_53 : decode cX4_join 53 = .ok (.laload, 1) := by decide +kernel
theorem dX4_join_54 : decode cX4_join 54 = .ok (.lor, 1) := by decide +kernel
theorem dX4_join_55 : decode cX4_join 55 = .ok (.goto 11, 3) := by decide +kernel
theorem dX4_join_58 : decode cX4_join 58 = .ok (.aload_n 0, 1) := by decide +kernel
theorem dX4_join_59 : decode cX4_join 59 = .ok (.getfield 22, 3) := by decide +kernel
theorem dX4_join_62 : decode cX4_join 62 = .ok (.iload_n 2, 1) := by decide +kernel
theorem dX4_join_63 : decode cX4_join 63 = .ok (.iload_n 3, 1) := by decide +kernel
theorem dX4_join_64 : decode cX4_join 64 = .ok (.iadd, 1) := by decide +kernel
theorem dX4_join_65 : decode cX4_join 65 = .ok (.laload, 1) := by decide +kernel
theorem dX4_join_66 : decode cX4_join 66 = .ok (.lastore, 1) := by decide +kernel
theorem dX4_join_67 : decode cX4_join 67 = .ok (.iinc 3 1, 3) := by decide +kernel
theorem dX4_join_70 : decode cX4_join 70 = .ok (.goto (-53), 3) := by decide +kernel
theorem dX4_join_73 : decode cX4_join 73 = .ok (.aload_n 0, 1) := by decide +kernel
theorem dX4_join_74 : decode cX4_join 74 = .ok (.iconst 1, 1) := by decide +kernel
theorem dX4_join_75 : decode cX4_join 75 = .ok (.putfield 151, 3) := by decide +kernel
theorem dX4_join_78 : decode cX4_join 78 = .ok (.return_, 1) := by decide +kernel
theorem dX4_leave_0 : decode cX4_leave 0 = .ok (.aload_n 0, 1) := by decide +kernel
theorem dX4_leave_1 : decode cX4_leave 1 = .ok (.getfield 46, 3) := by decide +kernel
theorem dX4_leave_4 : decode cX4_leave 4 = .ok (.getfield 120, 3) := by decide +kernel
theorem dX4_leave_7 : decode cX4_leave 7 = .ok (.iload_n 1, 1) := by decide +kernel
theorem dX4_leave_8 : decode cX4_leave 8 = .ok (.iaload, 1) := by decide +kernel
theorem dX4_leave_9 : decode cX4_leave 9 = .ok (.iconst 1, 1) := by decide +kernel
theorem dX4_leave_10 : decode cX4_leave 10 = .ok (.isub, 1) := by decide +kernel
theorem dX4_leave_11 : decode cX4_leave 11 = .ok (.istore_n 2, 1) := by decide +kernel
theorem dX4_leave_12 : decode cX4_leave 12 = .ok (.iload_n 2, 1) := by decide +kernel
theorem dX4_leave_13 : decode cX4_leave 13 = .ok (.aload_n 0, 1) := by decide +kernel
theorem dX4_leave_14 : decode cX4_leave 14 = .ok (.getfield 46, 3) := by decide +kernel
theorem dX4_leave_17 : decode cX4_leave 17 = .ok (.getfield 123, 3) := by decide +kernel
theorem dX4_leave_20 : decode cX4_leave 20 = .ok (.iload_n 1, 1) := by decide +kernel
theorem dX4_leave_21 : decode cX4_leave 21 = .ok (.iaload, 1) := by decide +kernel
theorem dX4_leave_22 : decode cX4_leave 22 = .ok (.if_icmp .lt 65, 3) := by decide +kernel
theorem dX4_leave_25 : decode cX4_leave 25 = .ok (.aload_n 0, 1) := by decide +kernel
theorem dX4_leave_26 : decode cX4_leave 26 = .ok (.getfield 42, 3) := by decide +kernel
theorem dX4_leave_29 : decode cX4_leave 29 = .ok (.aload_n 0, 1) := by decide +kernel
theorem dX4_leave_30 : decode cX4_leave 30 = .ok (.getfield 54, 3) := by decide +kernel
theorem dX4_leave_33 : decode cX4_leave 33 = .ok (.getfield 163, 3) := by decide +kernel
theorem dX4_leave_36 : decode cX4_leave 36 = .ok (.iload_n 2, 1) := by decide +kernel
theorem dX4_leave_37 : decode cX4_leave 37 = .ok (.iaload, 1) := by decide +kernel
theorem dX4_leave_38 : decode cX4_leave 38 = .ok (.invokevirtual 70, 3) := by decide +kernel
theorem dX4_leave_41 : decode cX4_leave 41 = .ok (.ifCond .ne 33, 3) := by decide +kernel
theorem dX4_leave_44 : decode cX4_leave 44 = .ok (.aload_n 0, 1) := by decide +kernel
theorem dX4_leave_45 : decode cX4_leave 45 = .ok (.getfield 39, 3) := by decide +kernel
theorem dX4_leave_48 : decode cX4_leave 48 = .ok (.iload_n 2, 1) := by decide +kernel
theorem dX4_leave_49 : decode cX4_leave 49 = .ok (.laload, 1) := by decide +kernel
theorem dX4_leave_50 : decode cX4_leave 50 = .ok (.aload_n 0, 1) := by decide +kernel
theorem dX4_leave_51 : decode cX4_leave 51 = .ok (.iload_n 1, 1) := by decide +kernel
theorem dX4_leave_52 : decode cX4_leave 52 = .ok (.invokevirtual 224, 3) := by decide +kernel
theorem dX4_leave_55 : decode cX4_leave 55 = .ok (.land, 1) := by decide +kernel
theorem dX4_leave_56 : decode cX4_leave 56 = .ok (.lconst 0, 1) := by decide +kernel
theorem dX4_leave_57 : decode cX4_leave 57 = .ok (.lcmp, 1) := by decide +kernel
theorem dX4_leave_58 : decode cX4_leave 58 = .ok (.ifCond .eq 16, 3) := by decide +kernel
theorem dX4_leave_61 : decode cX4_leave 61 = .ok (.aload_n 0, 1) := by decide +kernel
theorem dX4_leave_62 : decode cX4_leave 62 = .ok (.aload_n 0, 1) := by decide +kernel
theorem dX4_leave_63 : decode cX4_leave 63 = .ok (.getfield 46, 3) := by decide +kernel
theorem dX4_leave_66 : decode cX4_leave 66 = .ok (.getfield 227, 3) := by decide +kernel
theorem dX4_leave_69 : decode cX4_leave 69 = .ok (.iload_n 1, 1) := by decide +kernel
theorem dX4_leave_70 : decode cX4_leave 70 = .ok (.iaload, 1) := by decide +kernel
theorem dX4_leave_71 : decode cX4_leave 71 = .ok (.invokevirtual 230, 3) := by decide +kernel
theorem dX4_leave_74 : decode cX4_leave 74 = .ok (.aload_n 0, 1) := by decide +kernel
theorem dX4_leave_75 : decode cX4_leave 75 = .ok (.getfield 18, 3) := by decide +kernel
theorem dX4_leave_78 : decode cX4_leave 78 = .ok (.iload_n 2, 1) := by decide +kernel
theorem dX4_leave_79 : decode cX4_leave 79 = .ok (.lconst 0, 1) := by decide +kernel
theorem dX4_leave_80 : decode cX4_leave 80 = .ok (.lastore, 1) := by decide +kernel
theorem dX4_leave_81 : decode cX4_leave 81 = .ok (.iinc 2 (-1), 3) := by decide +kernel
theorem dX4_leave_84 : decode cX4_leave 84 = .ok (.goto (-72), 3) := by decide +kernel
theorem dX4_leave_87 : decode cX4_leave 87 = .ok (.return_, 1) := by decide +kernel
theorem dX4_look_0 : decode cX4_look 0 = .ok (.aload_n 0, 1) := by decide +kernel
theorem dX4_look_1 : decode cX4_look 1 = .ok (.getfield 46, 3) := by decide +kernel
theorem dX4_look_4 : decode cX4_look 4 = .ok (.getfield 123, 3) := by decide +kernel
theorem dX4_look_7 : decode cX4_look 7 = .ok (.iload_n 1, 1) := by decide +kernel
theorem dX4_look_8 : decode cX4_look 8 = .ok (.iaload, 1) := by decide +kernel
theorem dX4_look_9 : decode cX4_look 9 = .ok (.istore_n 2, 1) := by decide +kernel
theorem dX4_look_10 : decode cX4_look 10 = .ok (.aload_n 0, 1) := by decide +kernel
theorem dX4_look_11 : decode cX4_look 11 = .ok (.getfield 46, 3) := by decide +kernel
theorem dX4_look_14 : decode cX4_look 14 = .ok (.getfield 115, 3) := by decide +kernel
theorem dX4_look_17 : decode cX4_look 17 = .ok (.iload_n 1, 1) := by decide +kernel
theorem dX4_look_18 : decode cX4_look 18 = .ok (.iaload, 1) := by decide +kernel
theorem dX4_look_19 : decode cX4_look 19 = .ok (.tableswitch 342 0 32 #[145, 145, 153, 153, 221, 342, 342, 229, 342, 145, 229, 145, 238, 342, 342, 342, 342, 342, 342, 342, 342, 310, 334, 342, 255, 269, 302, 229, 229, 269, 279, 342, 326], 145) := by decide +kernel
theorem dX4_look_164 : decode cX4_look 164 = .ok (.aload_n 0, 1) := by decide +kernel
theorem dX4_look_165 : decode cX4_look 165 = .ok (.lconst 0, 1) := by decide +kernel
theorem dX4_look_166 : decode cX4_look 166 = .ok (.invokevirtual 179, 3) := by decide +kernel
theorem dX4_look_169 : decode cX4_look 169 = .ok (.goto 197, 3) := by decide +kernel
theorem dX4_look_172 : decode cX4_look 172 = .ok (.aload_n 0, 1) := by decide +kernel
theorem dX4_look_173 : decode cX4_look 173 = .ok (.iload_n 1, 1) := by decide +kernel
theorem dX4_look_174 : decode cX4_look 174 = .ok (.iload_n 2, 1) := by decide +kernel
theorem dX4_look_175 : decode cX4_look 175 = .ok (.aload_n 0, 1) := by decide +kernel
theorem dX4_look_176 : decode cX4_look 176 = .ok (.getfield 46, 3) := by decide +kernel
theorem dX4_look_179 : decode cX4_look 179 = .ok (.getfield 115, 3) := by decide +kernel
theorem dX4_look_182 : decode cX4_look 182 = .ok (.iload_n 1, 1) := by decide +kernel
theorem dX4_look_183 : decode cX4_look 183 = .ok (.iaload, 1) := by decide +kernel
theorem dX4_look_184 : decode cX4_look 184 = .ok (.iconst 3, 1) := by decide +kernel
theorem dX4_look_185 : decode cX4_look 185 = .ok (.if_icmp .ne 7, 3) := by decide +kernel
theorem dX4_look_188 : decode cX4_look 188 = .ok (.iconst 1, 1) := by decide +kernel
theorem dX4_look_189 : decode cX4_look 189 = .ok (.goto 4, 3) := by decide +kernel
theorem dX4_look_192 : decode cX4_look 192 = .ok (.iconst 0, 1) := by decide +kernel
theorem dX4_look_193 : decode cX4_look 193 = .ok (.invokevirtual 183, 3) := by decide +kernel
theorem dX4_look_196 : decode cX4_look 196 = .ok (.aload_n 0, 1) := by decide +kernel
theorem dX4_look_197 : decode cX4_look 197 = .ok (.aload_n 0, 1) := by decide +kernel
theorem dX4_look_198 : decode cX4_look 198 = .ok (.getfield 42, 3) := by decide +kernel
theorem dX4_look_201 : decode cX4_look 201 = .ok (.aload_n 0, 1) := by decide +kernel
theorem dX4_look_202 : decode cX4_look 202 = .ok (.getfield 46, 3) := by decide +kernel
theorem dX4_look_205 : decode cX4_look 205 = .ok (.getfield 187, 3) := by decide +kernel
theorem dX4_look_208 : decode cX4_look 208 = .ok (.iload_n 2, 1) := by decide +kernel
theorem dX4_look_209 : decode cX4_look 209 = .ok (.iaload, 1) := by decide +kernel
theorem dX4_look_210 : decode cX4_look 210 = .ok (.invokevirtual 70, 3) := by decide +kernel
theorem dX4_look_213 : decode cX4_look 213 = .ok (.ifCond .eq 20, 3) := by decide +kernel
theorem dX4_look_216 : decode cX4_look 216 = .ok (.aload_n 0, 1) := by decide +kernel
theorem dX4_look_217 : decode cX4_look 217 = .ok (.getfield 18, 3) := by decide +kernel
theorem dX4_look_220 : decode cX4_look 220 = .ok (.aload_n 0, 1) := by decide +kernel
theorem dX4_look_221 : decode cX4_look 221 = .ok (.getfield 46, 3) := by decide +kernel
theorem dX4_look_224 : decode cX4_look 224 = .ok (.getfield 126, 3) := by decide +kernel
theorem dX4_look_227 : decode cX4_look 227 = .ok (.iload_n 2, 1) := by decide +kernel
theorem dX4_look_228 : decode cX4_look 228 = .ok (.iaload, 1) := by decide +kernel
theorem dX4_look_229 : decode cX4_look 229 = .ok (.laload, 1) := by decide +kernel
theorem dX4_look_230 : decode cX4_look 230 = .ok (.goto 4, 3) := by decide +kernel
theorem dX4_look_233 : decode cX4_look 233 = .ok (.lconst 0, 1) := by decide +kernel
theorem dX4_look_234 : decode cX4_look 234 = .ok (.invokevirtual 179, 3) := by decide +kernel
theorem dX4_look_237 : decode cX4_look 237 = .ok (.goto 129, 3) := by decide +kernel
theorem dX4_look_240 : decode cX4_look 240 = .ok (.aload_n 0, 1) := by decide +kernel
theorem dX4_look_241 : decode cX4_look 241 = .ok (.iload_n 1, 1) := by decide +kernel
theorem dX4_look_242 : decode cX4_look 242 = .ok (.invokevirtual 190, 3) := by decide +kernel
theorem dX4_look_245 : decode cX4_look 245 = .ok (.goto 121, 3) := by decide +kernel
theorem dX4_look_248 : decode cX4_look 248 = .ok (.aload_n 0, 1) := by decide +kernel
theorem dX4_look_249 : decode cX4_look 249 = .ok (.iconst 1, 1) := by decide +kernel
theorem dX4_look_250 : decode cX4_look 250 = .ok (.invokevirtual 193, 3) := by decide +kernel
theorem dX4_look_253 : decode cX4_look 253 = .ok (.pop2, 1) := by decide +kernel
theorem dX4_look_254 : decode cX4_look 254 = .ok (.goto 112, 3) := by decide +kernel
theorem dX4_look_257 : decode cX4_look 257 = .ok (.aload_n 0, 1) := by decide +kernel
theorem dX4_look_258 : decode cX4_look 258 = .ok (.aload_n 0, 1) := by decide +kernel
theorem dX4_look_259 : decode cX4_look 259 = .ok (.getfield 46, 3) := by decide +kernel
theorem dX4_look_262 : decode cX4_look 262 = .ok (.getfield 120, 3) := by decide +kernel
theorem dX4_look_265 : decode cX4_look 265 = .ok (.iload_n 1, 1) := by decide +kernel
theorem dX4_look_266 : decode cX4_look 266 = .ok (.iaload, 1) := by decide +kernel
theorem dX4_look_267 : decode cX4_look 267 = .ok (.invokevirtual 193, 3) := by decide +kernel
theorem dX4_look_270 : decode cX4_look 270 = .ok (.pop2, 1) := by decide +kernel
theorem dX4_look_271 : decode cX4_look 271 = .ok (.goto 95, 3) := by decide +kernel
theorem dX4_look_274 : decode cX4_look 274 = .ok (.aload_n 0, 1) := by decide +kernel
theorem dX4_look_275 : decode cX4_look 275 = .ok (.getfield 18, 3) := by decide +kernel
theorem dX4_look_278 : decode cX4_look 278 = .ok (.iload_n 2, 1) := by decide +kernel
theorem dX4_look_279 : decode cX4_look 279 = .ok (.aload_n 0, 1) := by decide +kernel
theorem dX4_look_280 : decode cX4_look 280 = .ok (.iconst 1, 1) := by decide +kernel
theorem dX4_look_281 : decode cX4_look 281 = .ok (.invokevirtual 193, 3) := by decide +kernel
theorem dX4_look_284 : decode cX4_look 284 = .ok (.lastore, 1) := by decide +kernel
theorem dX4_look_285 : decode cX4_look 285 = .ok (.goto 81, 3) := by decide +kernel
theorem dX4_look_288 : decode cX4_look 288 = .ok (.aload_n 0, 1) := by decide +kernel
theorem dX4_look_289 : decode cX4_look 289 = .ok (.getfield 18, 3) := by decide +kernel
theorem dX4_look_292 : decode cX4_look 292 = .ok (.iload_n 2, 1) := by decide +kernel
theorem dX4_look_293 : decode cX4_look 293 = .ok (.lconst 0, 1) := by decide +kernel
theorem dX4_look_294 : decode cX4_look 294 = .ok (.lastore, 1) := by decide +kernel
theorem dX4_look_295 : decode cX4_look 295 = .ok (.goto 71, 3) := by decide +kernel
theorem dX4_look_298 : decode cX4_look 298 = .ok (.aload_n 0, 1) := by decide +kernel
theorem dX4_look_299 : decode cX4_look 299 = .ok (.getfield 18, 3) := by decide +kernel
theorem dX4_look_302 : decode cX4_look 302 = .ok (.iload_n 2, 1) := by decide +kernel
theorem dX4_look_303 : decode cX4_look 303 = .ok (.aload_n 0, 1) := by decide +kernel
theorem dX4_look_304 : decode cX4_look 304 = .ok (.getfield 36, 3) := by decide +kernel
theorem dX4_look_307 : decode cX4_look 307 = .ok (.aload_n 0, 1) := by decide +kernel
theorem dX4_look_308 : decode cX4_look 308 = .ok (.getfield 46, 3) := by decide +kernel
theorem dX4_look_311 : decode cX4_look 311 = .ok (.getfield 129, 3) := by decide +kernel
theorem dX4_look_314 : decode cX4_look 314 = .ok (.iload_n 1, 1) := by decide +kernel
theorem dX4_look_315 : decode cX4_look 315 = .ok (.iaload, 1) := by decide +kernel
theorem dX4_look_316 : decode cX4_look 316 = .ok (.laload, 1) := by decide +kernel
theorem dX4_look_317 : decode cX4_look 317 = .ok (.lastore, 1) := by decide +kernel
theorem dX4_look_318 : decode cX4_look 318 = .ok (.goto 48, 3) := by decide +kernel
theorem dX4_look_321 : decode cX4_look 321 = .ok (.aload_n 0, 1) := by decide +kernel
theorem dX4_look_322 : decode cX4_look 322 = .ok (.iload_n 1, 1) := by decide +kernel
theorem dX4_look_323 : decode cX4_look 323 = .ok (.invokevirtual 196, 3) := by decide +kernel
theorem dX4_look_326 : decode cX4_look 326 = .ok (.goto 40, 3) := by decide +kernel
theorem dX4_look_329 : decode cX4_look 329 = .ok (.aload_n 0, 1) := by decide +kernel
theorem dX4_look_330 : decode cX4_look 330 = .ok (.aload_n 0, 1) := by decide +kernel
theorem dX4_look_331 : decode cX4_look 331 = .ok (.getfield 50, 3) := by decide +kernel
theorem dX4_look_334 : decode cX4_look 334 = .ok (.getfield 199, 3) := by decide +kernel
theorem dX4_look_337 : decode cX4_look 337 = .ok (.iload_n 2, 1) := by decide +kernel
theorem dX4_look_338 : decode cX4_look 338 = .ok (.aaload, 1) := by decide +kernel
theorem dX4_look_339 : decode cX4_look 339 = .ok (.invokevirtual 205, 3) := by decide +kernel
theorem dX4_look_342 : decode cX4_look 342 = .ok (.goto 24, 3) := by decide +kernel
theorem dX4_look_345 : decode cX4_look 345 = .ok (.aload_n 0, 1) := by decide +kernel
theorem dX4_look_346 : decode cX4_look 346 = .ok (.iload_n 1, 1) := by decide +kernel
theorem dX4_look_347 : decode cX4_look 347 = .ok (.invokevirtual 209, 3) := by decide +kernel
theorem dX4_look_350 : decode cX4_look 350 = .ok (.goto 16, 3) := by decide +kernel
theorem dX4_look_353 : decode cX4_look 353 = .ok (.aload_n 0, 1) := by decide +kernel
theorem dX4_look_354 : decode cX4_look 354 = .ok (.iload_n 1, 1) := by decide +kernel
theorem dX4_look_355 : decode cX4_look 355 = .ok (.invokevirtual 212, 3) := by decide +kernel
theorem dX4_look_358 : decode cX4_look 358 = .ok (.goto 8, 3) := by decide +kernel
theorem dX4_look_361 : decode cX4_look 361 = .ok (.aload_n 0, 1) := by decide +kernel
theorem dX4_look_362 : decode cX4_look 362 = .ok (.iload_n 1, 1) := by decide +kernel
theorem dX4_look_363 : decode cX4_look 363 = .ok (.invokevirtual 215, 3) := by decide +kernel
theorem dX4_look_366 : decode cX4_look 366 = .ok (.return_, 1) := by decide +kernel
theorem dX4_outerLoan_0 : decode cX4_outerLoan 0 = .ok (.lconst 1, 1) := by decide +kernel
theorem dX4_outerLoan_1 : decode cX4_outerLoan 1 = .ok (.iload_n 0, 1) := by decide +kernel
theorem dX4_outerLoan_2 : decode cX4_outerLoan 2 = .ok (.ifCond .ge 8, 3) := by decide +kernel
theorem dX4_outerLoan_5 : decode cX4_outerLoan 5 = .ok (.bipush 62, 2) := by decide +kernel
theorem dX4_outerLoan_7 : decode cX4_outerLoan 7 = .ok (.goto 7, 3) := by decide +kernel
theorem dX4_outerLoan_10 : decode cX4_outerLoan 10 = .ok (.bipush 54, 2) := by decide +kernel
theorem dX4_outerLoan_12 : decode cX4_outerLoan 12 = .ok (.iload_n 0, 1) := by decide +kernel
theorem dX4_outerLoan_13 : decode cX4_outerLoan 13 = .ok (.iadd, 1) := by decide +kernel
theorem dX4_outerLoan_14 : decode cX4_outerLoan 14 = .ok (.lshl, 1) := by decide +kernel
theorem dX4_outerLoan_15 : decode cX4_outerLoan 15 = .ok (.lreturn, 1) := by decide +kernel
theorem dX4_overlap_0 : decode cX4_overlap 0 = .ok (.aload_n 0, 1) := by decide +kernel
theorem dX4_overlap_1 : decode cX4_overlap 1 = .ok (.getfield 46, 3) := by decide +kernel
theorem dX4_overlap_4 : decode cX4_overlap 4 = .ok (.getfield 139, 3) := by decide +kernel
theorem dX4_overlap_7 : decode cX4_overlap 7 = .ok (.iload_n 1, 1) := by decide +kernel
theorem dX4_overlap_8 : decode cX4_overlap 8 = .ok (.iaload, 1) := by decide +kernel
theorem dX4_overlap_9 : decode cX4_overlap 9 = .ok (.aload_n 0, 1) := by decide +kernel
theorem dX4_overlap_10 : decode cX4_overlap 10 = .ok (.getfield 46, 3) := by decide +kernel
theorem dX4_overlap_13 : decode cX4_overlap 13 = .ok (.getfield 139, 3) := by decide +kernel
theorem dX4_overlap_16 : decode cX4_overlap 16 = .ok (.iload_n 2, 1) := by decide +kernel
theorem dX4_overlap_17 : decode cX4_overlap 17 = .ok (.iaload, 1) := by decide +kernel
theorem dX4_overlap_18 : decode cX4_overlap 18 = .ok (.invokestatic 246, 3) := by decide +kernel
theorem dX4_overlap_21 : decode cX4_overlap 21 = .ok (.istore_n 3, 1) := by decide +kernel
theorem dX4_overlap_22 : decode cX4_overlap 22 = .ok (.iconst 1, 1) := by decide +kernel
theorem dX4_overlap_23 : decode cX4_overlap 23 = .ok (.iconst 4, 1) := by decide +kernel
theorem dX4_overlap_24 : decode cX4_overlap 24 = .ok (.iload_n 3, 1) := by decide +kernel
theorem dX4_overlap_25 : decode cX4_overlap 25 = .ok (.imul, 1) := by decide +kernel
theorem dX4_overlap_26 : decode cX4_overlap 26 = .ok (.ishl, 1) := by decide +kernel
theorem dX4_overlap_27 : decode cX4_overlap 27 = .ok (.iconst 1, 1) := by decide +kernel
theorem dX4_overlap_28 : decode cX4_overlap 28 = .ok (.isub, 1) := by decide +kernel
theorem dX4_overlap_29 : decode cX4_overlap 29 = .ok (.istore 4, 2) := by decide +kernel
theorem dX4_overlap_31 : decode cX4_overlap 31 = .ok (.aload_n 0, 1) := by decide +kernel
theorem dX4_overlap_32 : decode cX4_overlap 32 = .ok (.getfield 46, 3) := by decide +kernel
theorem dX4_overlap_35 : decode cX4_overlap 35 = .ok (.getfield 252, 3) := by decide +kernel
theorem dX4_overlap_38 : decode cX4_overlap 38 = .ok (.iload_n 1, 1) := by decide +kernel
theorem dX4_overlap_39 : decode cX4_overlap 39 = .ok (.iaload, 1) := by decide +kernel
theorem dX4_overlap_40 : decode cX4_overlap 40 = .ok (.aload_n 0, 1) := by decide +kernel
theorem dX4_overlap_41 : decode cX4_overlap 41 = .ok (.getfield 46, 3) := by decide +kernel
theorem dX4_overlap_44 : decode cX4_overlap 44 = .ok (.getfield 252, 3) := by decide +kernel
theorem dX4_overlap_47 : decode cX4_overlap 47 = .ok (.iload_n 2, 1) := by decide +kernel
theorem dX4_overlap_48 : decode cX4_overlap 48 = .ok (.iaload, 1) := by decide +kernel
theorem dX4_overlap_49 : decode cX4_overlap 49 = .ok (.ixor, 1) := by decide +kernel
theorem dX4_overlap_50 : decode cX4_overlap 50 = .ok (.iload 4, 2) := by decide +kernel
theorem dX4_overlap_52 : decode cX4_overlap 52 = .ok (.iand, 1) := by decide +kernel
theorem dX4_overlap_53 : decode cX4_overlap 53 = .ok (.ifCond .ne 7, 3) := by decide +kernel
theorem dX4_overlap_56 : decode cX4_overlap 56 = .ok (.iconst 1, 1) := by decide +kernel
theorem dX4_overlap_57 : decode cX4_overlap 57 = .ok (.goto 4, 3) := by decide +kernel
theorem dX4_overlap_60 : decode cX4_overlap 60 = .ok (.iconst 0, 1) := by decide +kernel
theorem dX4_overlap_61 : decode cX4_overlap 61 = .ok (.ireturn, 1) := by decide +kernel
theorem dX4_pass_0 : decode cX4_pass 0 = .ok (.aload_n 0, 1) := by decide +kernel
theorem dX4_pass_1 : decode cX4_pass 1 = .ok (.iconst 1, 1) := by decide +kernel
theorem dX4_pass_2 : decode cX4_pass 2 = .ok (.putfield 151, 3) := by decide +kernel
theorem dX4_pass_5 : decode cX4_pass 5 = .ok (.aload_n 0, 1) := by decide +kernel
theorem dX4_pass_6 : decode cX4_pass 6 = .ok (.iconst 0, 1) := by decide +kernel
theorem dX4_pass_7 : decode cX4_pass 7 = .ok (.putfield 154, 3) := by decide +kernel
theorem dX4_pass_10 : decode cX4_pass 10 = .ok (.iconst 0, 1) := by decide +kernel
theorem dX4_pass_11 : decode cX4_pass 11 = .ok (.istore_n 1, 1) := by decide +kernel
theorem dX4_pass_12 : decode cX4_pass 12 = .ok (.iload_n 1, 1) := by decide +kernel
theorem dX4_pass_13 : decode cX4_pass 13 = .ok (.aload_n 0, 1) := by decide +kernel
theorem dX4_pass_14 : decode cX4_pass 14 = .ok (.getfield 54, 3) := by decide +kernel
theorem dX4_pass_17 : decode cX4_pass 17 = .ok (.getfield 157, 3) := by decide +kernel
theorem dX4_pass_20 : decode cX4_pass 20 = .ok (.if_icmp .ge 71, 3) := by decide +kernel
theorem dX4_pass_23 : decode cX4_pass 23 = .ok (.iload_n 1, 1) := by decide +kernel
theorem dX4_pass_24 : decode cX4_pass 24 = .ok (.aload_n 0, 1) := by decide +kernel
theorem dX4_pass_25 : decode cX4_pass 25 = .ok (.getfield 54, 3) := by decide +kernel
theorem dX4_pass_28 : decode cX4_pass 28 = .ok (.getfield 160, 3) := by decide +kernel
theorem dX4_pass_31 : decode cX4_pass 31 = .ok (.if_icmp .ge 26, 3) := by decide +kernel
theorem dX4_pass_34 : decode cX4_pass 34 = .ok (.aload_n 0, 1) := by decide +kernel
theorem dX4_pass_35 : decode cX4_pass 35 = .ok (.getfield 42, 3) := by decide +kernel
theorem dX4_pass_38 : decode cX4_pass 38 = .ok (.aload_n 0, 1) := by decide +kernel
theorem dX4_pass_39 : decode cX4_pass 39 = .ok (.getfield 54, 3) := by decide +kernel
theorem dX4_pass_42 : decode cX4_pass 42 = .ok (.getfield 163, 3) := by decide +kernel
theorem dX4_pass_45 : decode cX4_pass 45 = .ok (.iload_n 1, 1) := by decide +kernel
theorem dX4_pass_46 : decode cX4_pass 46 = .ok (.iaload, 1) := by decide +kernel
theorem dX4_pass_47 : decode cX4_pass 47 = .ok (.invokevirtual 70, 3) := by decide +kernel
theorem dX4_pass_50 : decode cX4_pass 50 = .ok (.ifCond .eq 7, 3) := by decide +kernel
theorem dX4_pass_53 : decode cX4_pass 53 = .ok (.iconst 1, 1) := by decide +kernel
theorem dX4_pass_54 : decode cX4_pass 54 = .ok (.goto 4, 3) := by decide +kernel
theorem dX4_pass_57 : decode cX4_pass 57 = .ok (.iconst 0, 1) := by decide +kernel
theorem dX4_pass_58 : decode cX4_pass 58 = .ok (.istore_n 2, 1) := by decide +kernel
theorem dX4_pass_59 : decode cX4_pass 59 = .ok (.aload_n 0, 1) := by decide +kernel
theorem dX4_pass_60 : decode cX4_pass 60 = .ok (.getfield 18, 3) := by decide +kernel
theorem dX4_pass_63 : decode cX4_pass 63 = .ok (.iload_n 1, 1) := by decide +kernel
theorem dX4_pass_64 : decode cX4_pass 64 = .ok (.iload_n 2, 1) := by decide +kernel
theorem dX4_pass_65 : decode cX4_pass 65 = .ok (.ifCond .eq 18, 3) := by decide +kernel
theorem dX4_pass_68 : decode cX4_pass 68 = .ok (.aload_n 0, 1) := by decide +kernel
theorem dX4_pass_69 : decode cX4_pass 69 = .ok (.getfield 54, 3) := by decide +kernel
theorem dX4_pass_72 : decode cX4_pass 72 = .ok (.getfield 166, 3) := by decide +kernel
theorem dX4_pass_75 : decode cX4_pass 75 = .ok (.iload_n 1, 1) := by decide +kernel
theorem dX4_pass_76 : decode cX4_pass 76 = .ok (.iaload, 1) := by decide +kernel
theorem dX4_pass_77 : decode cX4_pass 77 = .ok (.invokestatic 169, 3) := by decide +kernel
theorem dX4_pass_80 : decode cX4_pass 80 = .ok (.goto 4, 3) := by decide +kernel
theorem dX4_pass_83 : decode cX4_pass 83 = .ok (.lconst 0, 1) := by decide +kernel
theorem dX4_pass_84 : decode cX4_pass 84 = .ok (.lastore, 1) := by decide +kernel
theorem dX4_pass_85 : decode cX4_pass 85 = .ok (.iinc 1 1, 3) := by decide +kernel
theorem dX4_pass_88 : decode cX4_pass 88 = .ok (.goto (-76), 3) := by decide +kernel
theorem dX4_pass_91 : decode cX4_pass 91 = .ok (.aload_n 0, 1) := by decide +kernel
theorem dX4_pass_92 : decode cX4_pass 92 = .ok (.getfield 54, 3) := by decide +kernel
theorem dX4_pass_95 : decode cX4_pass 95 = .ok (.getfield 109, 3) := by decide +kernel
theorem dX4_pass_98 : decode cX4_pass 98 = .ok (.istore_n 1, 1) := by decide +kernel
theorem dX4_pass_99 : decode cX4_pass 99 = .ok (.iload_n 1, 1) := by decide +kernel
theorem dX4_pass_100 : decode cX4_pass 100 = .ok (.aload_n 0, 1) := by decide +kernel
theorem dX4_pass_101 : decode cX4_pass 101 = .ok (.getfield 54, 3) := by decide +kernel
theorem dX4_pass_104 : decode cX4_pass 104 = .ok (.getfield 112, 3) := by decide +kernel
theorem dX4_pass_107 : decode cX4_pass 107 = .ok (.if_icmp .ge 65, 3) := by decide +kernel
theorem dX4_pass_110 : decode cX4_pass 110 = .ok (.aload_n 0, 1) := by decide +kernel
theorem dX4_pass_111 : decode cX4_pass 111 = .ok (.getfield 46, 3) := by decide +kernel
theorem dX4_pass_114 : decode cX4_pass 114 = .ok (.getfield 115, 3) := by decide +kernel
theorem dX4_pass_117 : decode cX4_pass 117 = .ok (.iload_n 1, 1) := by decide +kernel
theorem dX4_pass_118 : decode cX4_pass 118 = .ok (.iaload, 1) := by decide +kernel
theorem dX4_pass_119 : decode cX4_pass 119 = .ok (.bipush 13, 2) := by decide +kernel
theorem dX4_pass_121 : decode cX4_pass 121 = .ok (.if_icmp .eq 17, 3) := by decide +kernel
theorem dX4_pass_124 : decode cX4_pass 124 = .ok (.aload_n 0, 1) := by decide +kernel
theorem dX4_pass_125 : decode cX4_pass 125 = .ok (.getfield 46, 3) := by decide +kernel
theorem dX4_pass_128 : decode cX4_pass 128 = .ok (.getfield 115, 3) := by decide +kernel
theorem dX4_pass_131 : decode cX4_pass 131 = .ok (.iload_n 1, 1) := by decide +kernel
theorem dX4_pass_132 : decode cX4_pass 132 = .ok (.iaload, 1) := by decide +kernel
theorem dX4_pass_133 : decode cX4_pass 133 = .ok (.bipush 14, 2) := by decide +kernel
theorem dX4_pass_135 : decode cX4_pass 135 = .ok (.if_icmp .ne 19, 3) := by decide +kernel
theorem dX4_pass_138 : decode cX4_pass 138 = .ok (.aload_n 0, 1) := by decide +kernel
theorem dX4_pass_139 : decode cX4_pass 139 = .ok (.aload_n 0, 1) := by decide +kernel
theorem dX4_pass_140 : decode cX4_pass 140 = .ok (.getfield 46, 3) := by decide +kernel
theorem dX4_pass_143 : decode cX4_pass 143 = .ok (.getfield 123, 3) := by decide +kernel
theorem dX4_pass_146 : decode cX4_pass 146 = .ok (.iload_n 1, 1) := by decide +kernel
theorem dX4_pass_147 : decode cX4_pass 147 = .ok (.iaload, 1) := by decide +kernel
theorem dX4_pass_148 : decode cX4_pass 148 = .ok (.invokevirtual 172, 3) := by decide +kernel
theorem dX4_pass_151 : decode cX4_pass 151 = .ok (.goto 15, 3) := by decide +kernel
theorem dX4_pass_154 : decode cX4_pass 154 = .ok (.aload_n 0, 1) := by decide +kernel
theorem dX4_pass_155 : decode cX4_pass 155 = .ok (.getfield 151, 3) := by decide +kernel
theorem dX4_pass_158 : decode cX4_pass 158 = .ok (.ifCond .eq 8, 3) := by decide +kernel
theorem dX4_pass_161 : decode cX4_pass 161 = .ok (.aload_n 0, 1) := by decide +kernel
theorem dX4_pass_162 : decode cX4_pass 162 = .ok (.iload_n 1, 1) := by decide +kernel
theorem dX4_pass_163 : decode cX4_pass 163 = .ok (.invokevirtual 176, 3) := by decide +kernel
theorem dX4_pass_166 : decode cX4_pass 166 = .ok (.iinc 1 1, 3) := by decide +kernel
theorem dX4_pass_169 : decode cX4_pass 169 = .ok (.goto (-70), 3) := by decide +kernel
theorem dX4_pass_172 : decode cX4_pass 172 = .ok (.return_, 1) := by decide +kernel
theorem dX4_pop_0 : decode cX4_pop 0 = .ok (.lconst 0, 1) := by decide +kernel
theorem dX4_pop_1 : decode cX4_pop 1 = .ok (.lstore_n 2, 1) := by decide +kernel
theorem dX4_pop_2 : decode cX4_pop 2 = .ok (.iconst 0, 1) := by decide +kernel
theorem dX4_pop_3 : decode cX4_pop 3 = .ok (.istore 4, 2) := by decide +kernel
theorem dX4_pop_5 : decode cX4_pop 5 = .ok (.iload 4, 2) := by decide +kernel
theorem dX4_pop_7 : decode cX4_pop 7 = .ok (.iload_n 1, 1) := by decide +kernel
theorem dX4_pop_8 : decode cX4_pop 8 = .ok (.if_icmp .ge 38, 3) := by decide +kernel
theorem dX4_pop_11 : decode cX4_pop 11 = .ok (.aload_n 0, 1) := by decide +kernel
theorem dX4_pop_12 : decode cX4_pop 12 = .ok (.getfield 154, 3) := by decide +kernel
theorem dX4_pop_15 : decode cX4_pop 15 = .ok (.ifCond .le 31, 3) := by decide +kernel
theorem dX4_pop_18 : decode cX4_pop 18 = .ok (.aload_n 0, 1) := by decide +kernel
theorem dX4_pop_19 : decode cX4_pop 19 = .ok (.dup, 1) := by decide +kernel
theorem dX4_pop_20 : decode cX4_pop 20 = .ok (.getfield 154, 3) := by decide +kernel
theorem dX4_pop_23 : decode cX4_pop 23 = .ok (.iconst 1, 1) := by decide +kernel
theorem dX4_pop_24 : decode cX4_pop 24 = .ok (.isub, 1) := by decide +kernel
theorem dX4_pop_25 : decode cX4_pop 25 = .ok (.putfield 154, 3) := by decide +kernel
theorem dX4_pop_28 : decode cX4_pop 28 = .ok (.lload_n 2, 1) := by decide +kernel
theorem dX4_pop_29 : decode cX4_pop 29 = .ok (.aload_n 0, 1) := by decide +kernel
theorem dX4_pop_30 : decode cX4_pop 30 = .ok (.getfield 29, 3) := by decide +kernel
theorem dX4_pop_33 : decode cX4_pop 33 = .ok (.aload_n 0, 1) := by decide +kernel
theorem dX4_pop_34 : decode cX4_pop 34 = .ok (.getfield 154, 3) := by decide +kernel
theorem dX4_pop_37 : decode cX4_pop 37 = .ok (.laload, 1) := by decide +kernel
theorem dX4_pop_38 : decode cX4_pop 38 = .ok (.lor, 1) := by decide +kernel
theorem dX4_pop_39 : decode cX4_pop 39 = .ok (.lstore_n 2, 1) := by decide +kernel
theorem dX4_pop_40 : decode cX4_pop 40 = .ok (.iinc 4 1, 3) := by decide +kernel
theorem dX4_pop_43 : decode cX4_pop 43 = .ok (.goto (-38), 3) := by decide +kernel
theorem dX4_pop_46 : decode cX4_pop 46 = .ok (.lload_n 2, 1) := by decide +kernel
theorem dX4_pop_47 : decode cX4_pop 47 = .ok (.lreturn, 1) := by decide +kernel
theorem dX4_push_0 : decode cX4_push 0 = .ok (.aload_n 0, 1) := by decide +kernel
theorem dX4_push_1 : decode cX4_push 1 = .ok (.getfield 154, 3) := by decide +kernel
theorem dX4_push_4 : decode cX4_push 4 = .ok (.sipush 512, 3) := by decide +kernel
theorem dX4_push_7 : decode cX4_push 7 = .ok (.if_icmp .ge 23, 3) := by decide +kernel
theorem dX4_push_10 : decode cX4_push 10 = .ok (.aload_n 0, 1) := by decide +kernel
theorem dX4_push_11 : decode cX4_push 11 = .ok (.getfield 29, 3) := by decide +kernel
theorem dX4_push_14 : decode cX4_push 14 = .ok (.aload_n 0, 1) := by decide +kernel
theorem dX4_push_15 : decode cX4_push 15 = .ok (.getfield 154, 3) := by decide +kernel
theorem dX4_push_18 : decode cX4_push 18 = .ok (.lload_n 1, 1) := by decide +kernel
theorem dX4_push_19 : decode cX4_push 19 = .ok (.lastore, 1) := by decide +kernel
theorem dX4_push_20 : decode cX4_push 20 = .ok (.aload_n 0, 1) := by decide +kernel
theorem dX4_push_21 : decode cX4_push 21 = .ok (.dup, 1) := by decide +kernel
theorem dX4_push_22 : decode cX4_push 22 = .ok (.getfield 154, 3) := by decide +kernel
theorem dX4_push_25 : decode cX4_push 25 = .ok (.iconst 1, 1) := by decide +kernel
theorem dX4_push_26 : decode cX4_push 26 = .ok (.iadd, 1) := by decide +kernel
theorem dX4_push_27 : decode cX4_push 27 = .ok (.putfield 154, 3) := by decide +kernel
theorem dX4_push_30 : decode cX4_push 30 = .ok (.return_, 1) := by decide +kernel
theorem dX4_send_0 : decode cX4_send 0 = .ok (.aload_n 0, 1) := by decide +kernel
theorem dX4_send_1 : decode cX4_send 1 = .ok (.getfield 25, 3) := by decide +kernel
theorem dX4_send_4 : decode cX4_send 4 = .ok (.iload_n 1, 1) := by decide +kernel
theorem dX4_send_5 : decode cX4_send 5 = .ok (.baload, 1) := by decide +kernel
theorem dX4_send_6 : decode cX4_send 6 = .ok (.ifCond .ne 7, 3) := by decide +kernel
theorem dX4_send_9 : decode cX4_send 9 = .ok (.iconst 1, 1) := by decide +kernel
theorem dX4_send_10 : decode cX4_send 10 = .ok (.goto 4, 3) := by decide +kernel
theorem dX4_send_13 : decode cX4_send 13 = .ok (.iconst 0, 1) := by decide +kernel
theorem dX4_send_14 : decode cX4_send 14 = .ok (.istore_n 2, 1) := by decide +kernel
theorem dX4_send_15 : decode cX4_send 15 = .ok (.iload_n 1, 1) := by decide +kernel
theorem dX4_send_16 : decode cX4_send 16 = .ok (.bipush 40, 2) := by decide +kernel
theorem dX4_send_18 : decode cX4_send 18 = .ok (.imul, 1) := by decide +kernel
theorem dX4_send_19 : decode cX4_send 19 = .ok (.istore_n 3, 1) := by decide +kernel
theorem dX4_send_20 : decode cX4_send 20 = .ok (.iconst 0, 1) := by decide +kernel
theorem dX4_send_21 : decode cX4_send 21 = .ok (.istore 4, 2) := by decide +kernel
theorem dX4_send_23 : decode cX4_send 23 = .ok (.iload 4, 2) := by decide +kernel
theorem dX4_send_25 : decode cX4_send 25 = .ok (.aload_n 0, 1) := by decide +kernel
theorem dX4_send_26 : decode cX4_send 26 = .ok (.getfield 54, 3) := by decide +kernel
theorem dX4_send_29 : decode cX4_send 29 = .ok (.getfield 157, 3) := by decide +kernel
theorem dX4_send_32 : decode cX4_send 32 = .ok (.if_icmp .ge 64, 3) := by decide +kernel
theorem dX4_send_35 : decode cX4_send 35 = .ok (.aload_n 0, 1) := by decide +kernel
theorem dX4_send_36 : decode cX4_send 36 = .ok (.getfield 22, 3) := by decide +kernel
theorem dX4_send_39 : decode cX4_send 39 = .ok (.iload_n 3, 1) := by decide +kernel
theorem dX4_send_40 : decode cX4_send 40 = .ok (.iload 4, 2) := by decide +kernel
theorem dX4_send_42 : decode cX4_send 42 = .ok (.iadd, 1) := by decide +kernel
theorem dX4_send_43 : decode cX4_send 43 = .ok (.laload, 1) := by decide +kernel
theorem dX4_send_44 : decode cX4_send 44 = .ok (.aload_n 0, 1) := by decide +kernel
theorem dX4_send_45 : decode cX4_send 45 = .ok (.getfield 18, 3) := by decide +kernel
theorem dX4_send_48 : decode cX4_send 48 = .ok (.iload 4, 2) := by decide +kernel
theorem dX4_send_50 : decode cX4_send 50 = .ok (.laload, 1) := by decide +kernel
theorem dX4_send_51 : decode cX4_send 51 = .ok (.lor, 1) := by decide +kernel
theorem dX4_send_52 : decode cX4_send 52 = .ok (.lstore 5, 2) := by decide +kernel
theorem dX4_send_54 : decode cX4_send 54 = .ok (.iload_n 2, 1) := by decide +kernel
theorem dX4_send_55 : decode cX4_send 55 = .ok (.ifCond .ne 18, 3) := by decide +kernel
theorem dX4_send_58 : decode cX4_send 58 = .ok (.lload 5, 2) := by decide +kernel
theorem dX4_send_60 : decode cX4_send 60 = .ok (.aload_n 0, 1) := by decide +kernel
theorem dX4_send_61 : decode cX4_send 61 = .ok (.getfield 22, 3) := by decide +kernel
theorem dX4_send_64 : decode cX4_send 64 = .ok (.iload_n 3, 1) := by decide +kernel
theorem dX4_send_65 : decode cX4_send 65 = .ok (.iload 4, 2) := by decide +kernel
theorem dX4_send_67 : decode cX4_send 67 = .ok (.iadd, 1) := by decide +kernel
theorem dX4_send_68 : decode cX4_send 68 = .ok (.laload, 1) := by decide +kernel
theorem dX4_send_69 : decode cX4_send 69 = .ok (.lcmp, 1) := by decide +kernel
theorem dX4_send_70 : decode cX4_send 70 = .ok (.ifCond .eq 7, 3) := by decide +kernel
theorem dX4_send_73 : decode cX4_send 73 = .ok (.iconst 1, 1) := by decide +kernel
theorem dX4_send_74 : decode cX4_send 74 = .ok (.goto 4, 3) := by decide +kernel
theorem dX4_send_77 : decode cX4_send 77 = .ok (.iconst 0, 1) := by decide +kernel
theorem dX4_send_78 : decode cX4_send 78 = .ok (.istore_n 2, 1) := by decide +kernel
theorem dX4_send_79 : decode cX4_send 79 = .ok (.aload_n 0, 1) := by decide +kernel
theorem dX4_send_80 : decode cX4_send 80 = .ok (.getfield 22, 3) := by decide +kernel
theorem dX4_send_83 : decode cX4_send 83 = .ok (.iload_n 3, 1) := by decide +kernel
theorem dX4_send_84 : decode cX4_send 84 = .ok (.iload 4, 2) := by decide +kernel
theorem dX4_send_86 : decode cX4_send 86 = .ok (.iadd, 1) := by decide +kernel
theorem dX4_send_87 : decode cX4_send 87 = .ok (.lload 5, 2) := by decide +kernel
theorem dX4_send_89 : decode cX4_send 89 = .ok (.lastore, 1) := by decide +kernel
theorem dX4_send_90 : decode cX4_send 90 = .ok (.iinc 4 1, 3) := by decide +kernel
theorem dX4_send_93 : decode cX4_send 93 = .ok (.goto (-70), 3) := by decide +kernel
theorem dX4_send_96 : decode cX4_send 96 = .ok (.aload_n 0, 1) := by decide +kernel
theorem dX4_send_97 : decode cX4_send 97 = .ok (.getfield 25, 3) := by decide +kernel
theorem dX4_send_100 : decode cX4_send 100 = .ok (.iload_n 1, 1) := by decide +kernel
theorem dX4_send_101 : decode cX4_send 101 = .ok (.iconst 1, 1) := by decide +kernel
theorem dX4_send_102 : decode cX4_send 102 = .ok (.bastore, 1) := by decide +kernel
theorem dX4_send_103 : decode cX4_send 103 = .ok (.iload_n 2, 1) := by decide +kernel
theorem dX4_send_104 : decode cX4_send 104 = .ok (.ireturn, 1) := by decide +kernel
theorem dX4_tell_0 : decode cX4_tell 0 = .ok (.aload_n 0, 1) := by decide +kernel
theorem dX4_tell_1 : decode cX4_tell 1 = .ok (.getfield 58, 3) := by decide +kernel
theorem dX4_tell_4 : decode cX4_tell 4 = .ok (.ifCond .lt 11, 3) := by decide +kernel
theorem dX4_tell_7 : decode cX4_tell 7 = .ok (.iload_n 1, 1) := by decide +kernel
theorem dX4_tell_8 : decode cX4_tell 8 = .ok (.aload_n 0, 1) := by decide +kernel
theorem dX4_tell_9 : decode cX4_tell 9 = .ok (.getfield 58, 3) := by decide +kernel
theorem dX4_tell_12 : decode cX4_tell 12 = .ok (.if_icmp .ge 8, 3) := by decide +kernel
theorem dX4_tell_15 : decode cX4_tell 15 = .ok (.aload_n 0, 1) := by decide +kernel
theorem dX4_tell_16 : decode cX4_tell 16 = .ok (.iload_n 1, 1) := by decide +kernel
theorem dX4_tell_17 : decode cX4_tell 17 = .ok (.putfield 58, 3) := by decide +kernel
theorem dX4_tell_20 : decode cX4_tell 20 = .ok (.return_, 1) := by decide +kernel
theorem dX4_usedAhead_0 : decode cX4_usedAhead 0 = .ok (.aload_n 0, 1) := by decide +kernel
theorem dX4_usedAhead_1 : decode cX4_usedAhead 1 = .ok (.getfield 46, 3) := by decide +kernel
theorem dX4_usedAhead_4 : decode cX4_usedAhead 4 = .ok (.getfield 123, 3) := by decide +kernel
theorem dX4_usedAhead_7 : decode cX4_usedAhead 7 = .ok (.iload_n 1, 1) := by decide +kernel
theorem dX4_usedAhead_8 : decode cX4_usedAhead 8 = .ok (.iaload, 1) := by decide +kernel
theorem dX4_usedAhead_9 : decode cX4_usedAhead 9 = .ok (.istore 4, 2) := by decide +kernel
theorem dX4_usedAhead_11 : decode cX4_usedAhead 11 = .ok (.aload_n 0, 1) := by decide +kernel
theorem dX4_usedAhead_12 : decode cX4_usedAhead 12 = .ok (.getfield 46, 3) := by decide +kernel
theorem dX4_usedAhead_15 : decode cX4_usedAhead 15 = .ok (.getfield 115, 3) := by decide +kernel
theorem dX4_usedAhead_18 : decode cX4_usedAhead 18 = .ok (.iload_n 1, 1) := by decide +kernel
theorem dX4_usedAhead_19 : decode cX4_usedAhead 19 = .ok (.iaload, 1) := by decide +kernel
theorem dX4_usedAhead_20 : decode cX4_usedAhead 20 = .ok (.tableswitch 322 2 32 #[140, 140, 140, 322, 322, 322, 322, 322, 322, 322, 322, 286, 248, 306, 306, 296, 296, 296, 314, 322, 320, 322, 214, 214, 155, 322, 322, 214, 214, 322, 225], 140) := by decide +kernel
theorem dX4_usedAhead_160 : decode cX4_usedAhead 160 = .ok (.lload_n 2, 1) := by decide +kernel
theorem dX4_usedAhead_161 : decode cX4_usedAhead 161 = .ok (.lconst 1, 1) := by decide +kernel
theorem dX4_usedAhead_162 : decode cX4_usedAhead 162 = .ok (.aload_n 0, 1) := by decide +kernel
theorem dX4_usedAhead_163 : decode cX4_usedAhead 163 = .ok (.getfield 46, 3) := by decide +kernel
theorem dX4_usedAhead_166 : decode cX4_usedAhead 166 = .ok (.getfield 126, 3) := by decide +kernel
theorem dX4_usedAhead_169 : decode cX4_usedAhead 169 = .ok (.iload 4, 2) := by decide +kernel
theorem dX4_usedAhead_171 : decode cX4_usedAhead 171 = .ok (.iaload, 1) := by decide +kernel
theorem dX4_usedAhead_172 : decode cX4_usedAhead 172 = .ok (.lshl, 1) := by decide +kernel
theorem dX4_usedAhead_173 : decode cX4_usedAhead 173 = .ok (.lor, 1) := by decide +kernel
theorem dX4_usedAhead_174 : decode cX4_usedAhead 174 = .ok (.lreturn, 1) := by decide +kernel
theorem dX4_usedAhead_175 : decode cX4_usedAhead 175 = .ok (.lconst 1, 1) := by decide +kernel
theorem dX4_usedAhead_176 : decode cX4_usedAhead 176 = .ok (.aload_n 0, 1) := by decide +kernel
theorem dX4_usedAhead_177 : decode cX4_usedAhead 177 = .ok (.getfield 46, 3) := by decide +kernel
theorem dX4_usedAhead_180 : decode cX4_usedAhead 180 = .ok (.getfield 126, 3) := by decide +kernel
theorem dX4_usedAhead_183 : decode cX4_usedAhead 183 = .ok (.iload 4, 2) := by decide +kernel
theorem dX4_usedAhead_185 : decode cX4_usedAhead 185 = .ok (.iaload, 1) := by decide +kernel
theorem dX4_usedAhead_186 : decode cX4_usedAhead 186 = .ok (.lshl, 1) := by decide +kernel
theorem dX4_usedAhead_187 : decode cX4_usedAhead 187 = .ok (.lstore 5, 2) := by decide +kernel
theorem dX4_usedAhead_189 : decode cX4_usedAhead 189 = .ok (.aload_n 0, 1) := by decide +kernel
theorem dX4_usedAhead_190 : decode cX4_usedAhead 190 = .ok (.getfield 46, 3) := by decide +kernel
theorem dX4_usedAhead_193 : decode cX4_usedAhead 193 = .ok (.iload 4, 2) := by decide +kernel
theorem dX4_usedAhead_195 : decode cX4_usedAhead 195 = .ok (.invokevirtual 136, 3) := by decide +kernel
theorem dX4_usedAhead_198 : decode cX4_usedAhead 198 = .ok (.ifCond .eq 10, 3) := by decide +kernel
theorem dX4_usedAhead_201 : decode cX4_usedAhead 201 = .ok (.lload_n 2, 1) := by decide +kernel
theorem dX4_usedAhead_202 : decode cX4_usedAhead 202 = .ok (.lload 5, 2) := by decide +kernel
theorem dX4_usedAhead_204 : decode cX4_usedAhead 204 = .ok (.lor, 1) := by decide +kernel
theorem dX4_usedAhead_205 : decode cX4_usedAhead 205 = .ok (.goto 28, 3) := by decide +kernel
theorem dX4_usedAhead_208 : decode cX4_usedAhead 208 = .ok (.aload_n 0, 1) := by decide +kernel
theorem dX4_usedAhead_209 : decode cX4_usedAhead 209 = .ok (.getfield 46, 3) := by decide +kernel
theorem dX4_usedAhead_212 : decode cX4_usedAhead 212 = .ok (.getfield 139, 3) := by decide +kernel
theorem dX4_usedAhead_215 : decode cX4_usedAhead 215 = .ok (.iload 4, 2) := by decide +kernel
theorem dX4_usedAhead_217 : decode cX4_usedAhead 217 = .ok (.iaload, 1) := by decide +kernel
theorem dX4_usedAhead_218 : decode cX4_usedAhead 218 = .ok (.ifCond .ne 14, 3) := by decide +kernel
theorem dX4_usedAhead_221 : decode cX4_usedAhead 221 = .ok (.lload_n 2, 1) := by decide +kernel
theorem dX4_usedAhead_222 : decode cX4_usedAhead 222 = .ok (.lload 5, 2) := by decide +kernel
theorem dX4_usedAhead_224 : decode cX4_usedAhead 224 = .ok (.ldc2_w 142, 3) := by decide +kernel
theorem dX4_usedAhead_227 : decode cX4_usedAhead 227 = .ok (.lxor, 1) := by decide +kernel
theorem dX4_usedAhead_228 : decode cX4_usedAhead 228 = .ok (.land, 1) := by decide +kernel
theorem dX4_usedAhead_229 : decode cX4_usedAhead 229 = .ok (.goto 4, 3) := by decide +kernel
theorem dX4_usedAhead_232 : decode cX4_usedAhead 232 = .ok (.lload_n 2, 1) := by decide +kernel
theorem dX4_usedAhead_233 : decode cX4_usedAhead 233 = .ok (.lreturn, 1) := by decide +kernel
theorem dX4_usedAhead_234 : decode cX4_usedAhead 234 = .ok (.lload_n 2, 1) := by decide +kernel
theorem dX4_usedAhead_235 : decode cX4_usedAhead 235 = .ok (.lconst 1, 1) := by decide +kernel
theorem dX4_usedAhead_236 : decode cX4_usedAhead 236 = .ok (.iload 4, 2) := by decide +kernel
theorem dX4_usedAhead_238 : decode cX4_usedAhead 238 = .ok (.lshl, 1) := by decide +kernel
theorem dX4_usedAhead_239 : decode cX4_usedAhead 239 = .ok (.ldc2_w 142, 3) := by decide +kernel
theorem dX4_usedAhead_242 : decode cX4_usedAhead 242 = .ok (.lxor, 1) := by decide +kernel
theorem dX4_usedAhead_243 : decode cX4_usedAhead 243 = .ok (.land, 1) := by decide +kernel
theorem dX4_usedAhead_244 : decode cX4_usedAhead 244 = .ok (.lreturn, 1) := by decide +kernel
theorem dX4_usedAhead_245 : decode cX4_usedAhead 245 = .ok (.lload_n 2, 1) := by decide +kernel
theorem dX4_usedAhead_246 : decode cX4_usedAhead 246 = .ok (.lconst 1, 1) := by decide +kernel
theorem dX4_usedAhead_247 : decode cX4_usedAhead 247 = .ok (.aload_n 0, 1) := by decide +kernel
theorem dX4_usedAhead_248 : decode cX4_usedAhead 248 = .ok (.getfield 46, 3) := by decide +kernel
theorem dX4_usedAhead_251 : decode cX4_usedAhead 251 = .ok (.getfield 120, 3) := by decide +kernel
theorem dX4_usedAhead_254 : decode cX4_usedAhead 254 = .ok (.iload_n 1, 1) := by decide +kernel
theorem dX4_usedAhead_255 : decode cX4_usedAhead 255 = .ok (.iaload, 1) := by decide +kernel
theorem dX4_usedAhead_256 : decode cX4_usedAhead 256 = .ok (.lshl, 1) := by decide +kernel
theorem dX4_usedAhead_257 : decode cX4_usedAhead 257 = .ok (.lconst 1, 1) := by decide +kernel
theorem dX4_usedAhead_258 : decode cX4_usedAhead 258 = .ok (.iload 4, 2) := by decide +kernel
theorem dX4_usedAhead_260 : decode cX4_usedAhead 260 = .ok (.lshl, 1) := by decide +kernel
theorem dX4_usedAhead_261 : decode cX4_usedAhead 261 = .ok (.lsub, 1) := by decide +kernel
theorem dX4_usedAhead_262 : decode cX4_usedAhead 262 = .ok (.ldc2_w 142, 3) := by decide +kernel
theorem dX4_usedAhead_265 : decode cX4_usedAhead 265 = .ok (.lxor, 1) := by decide +kernel
theorem dX4_usedAhead_266 : decode cX4_usedAhead 266 = .ok (.land, 1) := by decide +kernel
theorem dX4_usedAhead_267 : decode cX4_usedAhead 267 = .ok (.lreturn, 1) := by decide +kernel
theorem dX4_usedAhead_268 : decode cX4_usedAhead 268 = .ok (.aload_n 0, 1) := by decide +kernel
theorem dX4_usedAhead_269 : decode cX4_usedAhead 269 = .ok (.aload_n 0, 1) := by decide +kernel
theorem dX4_usedAhead_270 : decode cX4_usedAhead 270 = .ok (.getfield 94, 3) := by decide +kernel
theorem dX4_usedAhead_273 : decode cX4_usedAhead 273 = .ok (.ifCond .ne 15, 3) := by decide +kernel
theorem dX4_usedAhead_276 : decode cX4_usedAhead 276 = .ok (.aload_n 0, 1) := by decide +kernel
theorem dX4_usedAhead_277 : decode cX4_usedAhead 277 = .ok (.getfield 15, 3) := by decide +kernel
theorem dX4_usedAhead_280 : decode cX4_usedAhead 280 = .ok (.iload 4, 2) := by decide +kernel
theorem dX4_usedAhead_282 : decode cX4_usedAhead 282 = .ok (.laload, 1) := by decide +kernel
theorem dX4_usedAhead_283 : decode cX4_usedAhead 283 = .ok (.lload_n 2, 1) := by decide +kernel
theorem dX4_usedAhead_284 : decode cX4_usedAhead 284 = .ok (.lcmp, 1) := by decide +kernel
theorem dX4_usedAhead_285 : decode cX4_usedAhead 285 = .ok (.ifCond .eq 7, 3) := by decide +kernel
theorem dX4_usedAhead_288 : decode cX4_usedAhead 288 = .ok (.iconst 1, 1) := by decide +kernel
theorem dX4_usedAhead_289 : decode cX4_usedAhead 289 = .ok (.goto 4, 3) := by decide +kernel
theorem dX4_usedAhead_292 : decode cX4_usedAhead 292 = .ok (.iconst 0, 1) := by decide +kernel
theorem dX4_usedAhead_293 : decode cX4_usedAhead 293 = .ok (.putfield 94, 3) := by decide +kernel
theorem dX4_usedAhead_296 : decode cX4_usedAhead 296 = .ok (.aload_n 0, 1) := by decide +kernel
theorem dX4_usedAhead_297 : decode cX4_usedAhead 297 = .ok (.getfield 15, 3) := by decide +kernel
theorem dX4_usedAhead_300 : decode cX4_usedAhead 300 = .ok (.iload 4, 2) := by decide +kernel
theorem dX4_usedAhead_302 : decode cX4_usedAhead 302 = .ok (.lload_n 2, 1) := by decide +kernel
theorem dX4_usedAhead_303 : decode cX4_usedAhead 303 = .ok (.lastore, 1) := by decide +kernel
theorem dX4_usedAhead_304 : decode cX4_usedAhead 304 = .ok (.lload_n 2, 1) := by decide +kernel
theorem dX4_usedAhead_305 : decode cX4_usedAhead 305 = .ok (.lreturn, 1) := by decide +kernel
theorem dX4_usedAhead_306 : decode cX4_usedAhead 306 = .ok (.aload_n 0, 1) := by decide +kernel
theorem dX4_usedAhead_307 : decode cX4_usedAhead 307 = .ok (.getfield 15, 3) := by decide +kernel
theorem dX4_usedAhead_310 : decode cX4_usedAhead 310 = .ok (.iload 4, 2) := by decide +kernel
theorem dX4_usedAhead_312 : decode cX4_usedAhead 312 = .ok (.lload_n 2, 1) := by decide +kernel
theorem dX4_usedAhead_313 : decode cX4_usedAhead 313 = .ok (.lastore, 1) := by decide +kernel
theorem dX4_usedAhead_314 : decode cX4_usedAhead 314 = .ok (.lload_n 2, 1) := by decide +kernel
theorem dX4_usedAhead_315 : decode cX4_usedAhead 315 = .ok (.lreturn, 1) := by decide +kernel
theorem dX4_usedAhead_316 : decode cX4_usedAhead 316 = .ok (.lload_n 2, 1) := by decide +kernel
theorem dX4_usedAhead_317 : decode cX4_usedAhead 317 = .ok (.aload_n 0, 1) := by decide +kernel
theorem dX4_usedAhead_318 : decode cX4_usedAhead 318 = .ok (.getfield 15, 3) := by decide +kernel
theorem dX4_usedAhead_321 : decode cX4_usedAhead 321 = .ok (.iload 4, 2) := by decide +kernel
theorem dX4_usedAhead_323 : decode cX4_usedAhead 323 = .ok (.laload, 1) := by decide +kernel
theorem dX4_usedAhead_324 : decode cX4_usedAhead 324 = .ok (.lor, 1) := by decide +kernel
theorem dX4_usedAhead_325 : decode cX4_usedAhead 325 = .ok (.lreturn, 1) := by decide +kernel
theorem dX4_usedAhead_326 : decode cX4_usedAhead 326 = .ok (.aload_n 0, 1) := by decide +kernel
theorem dX4_usedAhead_327 : decode cX4_usedAhead 327 = .ok (.getfield 15, 3) := by decide +kernel
theorem dX4_usedAhead_330 : decode cX4_usedAhead 330 = .ok (.iload 4, 2) := by decide +kernel
theorem dX4_usedAhead_332 : decode cX4_usedAhead 332 = .ok (.laload, 1) := by decide +kernel
theorem dX4_usedAhead_333 : decode cX4_usedAhead 333 = .ok (.lreturn, 1) := by decide +kernel
theorem dX4_usedAhead_334 : decode cX4_usedAhead 334 = .ok (.aload_n 0, 1) := by decide +kernel
theorem dX4_usedAhead_335 : decode cX4_usedAhead 335 = .ok (.iload_n 1, 1) := by decide +kernel
theorem dX4_usedAhead_336 : decode cX4_usedAhead 336 = .ok (.invokevirtual 144, 3) := by decide +kernel
theorem dX4_usedAhead_339 : decode cX4_usedAhead 339 = .ok (.lreturn, 1) := by decide +kernel
theorem dX4_usedAhead_340 : decode cX4_usedAhead 340 = .ok (.lconst 0, 1) := by decide +kernel
theorem dX4_usedAhead_341 : decode cX4_usedAhead 341 = .ok (.lreturn, 1) := by decide +kernel
theorem dX4_usedAhead_342 : decode cX4_usedAhead 342 = .ok (.lload_n 2, 1) := by decide +kernel
theorem dX4_usedAhead_343 : decode cX4_usedAhead 343 = .ok (.lreturn, 1) := by decide +kernel
theorem dX4_usedInArms_0 : decode cX4_usedInArms 0 = .ok (.lconst 0, 1) := by decide +kernel
theorem dX4_usedInArms_1 : decode cX4_usedInArms 1 = .ok (.lstore_n 2, 1) := by decide +kernel
theorem dX4_usedInArms_2 : decode cX4_usedInArms 2 = .ok (.iconst 0, 1) := by decide +kernel
theorem dX4_usedInArms_3 : decode cX4_usedInArms 3 = .ok (.istore 4, 2) := by decide +kernel
theorem dX4_usedInArms_5 : decode cX4_usedInArms 5 = .ok (.iload 4, 2) := by decide +kernel
theorem dX4_usedInArms_7 : decode cX4_usedInArms 7 = .ok (.aload_n 0, 1) := by decide +kernel
theorem dX4_usedInArms_8 : decode cX4_usedInArms 8 = .ok (.getfield 46, 3) := by decide +kernel
theorem dX4_usedInArms_11 : decode cX4_usedInArms 11 = .ok (.getfield 129, 3) := by decide +kernel
theorem dX4_usedInArms_14 : decode cX4_usedInArms 14 = .ok (.iload_n 1, 1) := by decide +kernel
theorem dX4_usedInArms_15 : decode cX4_usedInArms 15 = .ok (.iaload, 1) := by decide +kernel
theorem dX4_usedInArms_16 : decode cX4_usedInArms 16 = .ok (.if_icmp .ge 37, 3) := by decide +kernel
theorem dX4_usedInArms_19 : decode cX4_usedInArms 19 = .ok (.lload_n 2, 1) := by decide +kernel
theorem dX4_usedInArms_20 : decode cX4_usedInArms 20 = .ok (.aload_n 0, 1) := by decide +kernel
theorem dX4_usedInArms_21 : decode cX4_usedInArms 21 = .ok (.getfield 15, 3) := by decide +kernel
theorem dX4_usedInArms_24 : decode cX4_usedInArms 24 = .ok (.aload_n 0, 1) := by decide +kernel
theorem dX4_usedInArms_25 : decode cX4_usedInArms 25 = .ok (.getfield 46, 3) := by decide +kernel
theorem dX4_usedInArms_28 : decode cX4_usedInArms 28 = .ok (.getfield 148, 3) := by decide +kernel
theorem dX4_usedInArms_31 : decode cX4_usedInArms 31 = .ok (.aload_n 0, 1) := by decide +kernel
theorem dX4_usedInArms_32 : decode cX4_usedInArms 32 = .ok (.getfield 46, 3) := by decide +kernel
theorem dX4_usedInArms_35 : decode cX4_usedInArms 35 = .ok (.getfield 123, 3) := by decide +kernel
theorem dX4_usedInArms_38 : decode cX4_usedInArms 38 = .ok (.iload_n 1, 1) := by decide +kernel
theorem dX4_usedInArms_39 : decode cX4_usedInArms 39 = .ok (.iaload, 1) := by decide +kernel
theorem dX4_usedInArms_40 : decode cX4_usedInArms 40 = .ok (.iload 4, 2) := by decide +kernel
theorem dX4_usedInArms_42 : decode cX4_usedInArms 42 = .ok (.iadd, 1) := by decide +kernel
theorem dX4_usedInArms_43 : decode cX4_usedInArms 43 = .ok (.iaload, 1) := by decide +kernel
theorem dX4_usedInArms_44 : decode cX4_usedInArms 44 = .ok (.laload, 1) := by decide +kernel
theorem dX4_usedInArms_45 : decode cX4_usedInArms 45 = .ok (.lor, 1) := by decide +kernel
theorem dX4_usedInArms_46 : decode cX4_usedInArms 46 = .ok (.lstore_n 2, 1) := by decide +kernel
theorem dX4_usedInArms_47 : decode cX4_usedInArms 47 = .ok (.iinc 4 1, 3) := by decide +kernel
theorem dX4_usedInArms_50 : decode cX4_usedInArms 50 = .ok (.goto (-45), 3) := by decide +kernel
theorem dX4_usedInArms_53 : decode cX4_usedInArms 53 = .ok (.lload_n 2, 1) := by decide +kernel
theorem dX4_usedInArms_54 : decode cX4_usedInArms 54 = .ok (.lreturn, 1) := by decide +kernel
