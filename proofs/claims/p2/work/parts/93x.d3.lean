theorem dX3_arm_0 : decode cX3_arm 0 = .ok (.aload_n 0, 1) := by decide +kernel
theorem dX3_arm_1 : decode cX3_arm 1 = .ok (.getfield 15, 3) := by decide +kernel
theorem dX3_arm_4 : decode cX3_arm 4 = .ok (.getfield 45, 3) := by decide +kernel
theorem dX3_arm_7 : decode cX3_arm 7 = .ok (.istore_n 2, 1) := by decide +kernel
theorem dX3_arm_8 : decode cX3_arm 8 = .ok (.aload_n 0, 1) := by decide +kernel
theorem dX3_arm_9 : decode cX3_arm 9 = .ok (.getfield 15, 3) := by decide +kernel
theorem dX3_arm_12 : decode cX3_arm 12 = .ok (.bipush 40, 2) := by decide +kernel
theorem dX3_arm_14 : decode cX3_arm 14 = .ok (.invokevirtual 67, 3) := by decide +kernel
theorem dX3_arm_17 : decode cX3_arm 17 = .ok (.ifCond .eq 67, 3) := by decide +kernel
theorem dX3_arm_20 : decode cX3_arm 20 = .ok (.iconst 0, 1) := by decide +kernel
theorem dX3_arm_21 : decode cX3_arm 21 = .ok (.istore_n 3, 1) := by decide +kernel
theorem dX3_arm_22 : decode cX3_arm 22 = .ok (.iconst 0, 1) := by decide +kernel
theorem dX3_arm_23 : decode cX3_arm 23 = .ok (.istore 4, 2) := by decide +kernel
theorem dX3_arm_25 : decode cX3_arm 25 = .ok (.iload 4, 2) := by decide +kernel
theorem dX3_arm_27 : decode cX3_arm 27 = .ok (.sipush 3002, 3) := by decide +kernel
theorem dX3_arm_30 : decode cX3_arm 30 = .ok (.if_icmp .ge 35, 3) := by decide +kernel
theorem dX3_arm_33 : decode cX3_arm 33 = .ok (.iload 4, 2) := by decide +kernel
theorem dX3_arm_35 : decode cX3_arm 35 = .ok (.ifCond .eq 15, 3) := by decide +kernel
theorem dX3_arm_38 : decode cX3_arm 38 = .ok (.aload_n 0, 1) := by decide +kernel
theorem dX3_arm_39 : decode cX3_arm 39 = .ok (.getfield 15, 3) := by decide +kernel
theorem dX3_arm_42 : decode cX3_arm 42 = .ok (.bipush 44, 2) := by decide +kernel
theorem dX3_arm_44 : decode cX3_arm 44 = .ok (.invokevirtual 67, 3) := by decide +kernel
theorem dX3_arm_47 : decode cX3_arm 47 = .ok (.ifCond .eq 18, 3) := by decide +kernel
theorem dX3_arm_50 : decode cX3_arm 50 = .ok (.aload_n 0, 1) := by decide +kernel
theorem dX3_arm_51 : decode cX3_arm 51 = .ok (.iload 4, 2) := by decide +kernel
theorem dX3_arm_53 : decode cX3_arm 53 = .ok (.invokevirtual 99, 3) := by decide +kernel
theorem dX3_arm_56 : decode cX3_arm 56 = .ok (.iinc 3 1, 3) := by decide +kernel
theorem dX3_arm_59 : decode cX3_arm 59 = .ok (.iinc 4 1, 3) := by decide +kernel
theorem dX3_arm_62 : decode cX3_arm 62 = .ok (.goto (-37), 3) := by decide +kernel
theorem dX3_arm_65 : decode cX3_arm 65 = .ok (.aload_n 0, 1) := by decide +kernel
theorem dX3_arm_66 : decode cX3_arm 66 = .ok (.getfield 15, 3) := by decide +kernel
theorem dX3_arm_69 : decode cX3_arm 69 = .ok (.getfield 124, 3) := by decide +kernel
theorem dX3_arm_72 : decode cX3_arm 72 = .ok (.iload_n 2, 1) := by decide +kernel
theorem dX3_arm_73 : decode cX3_arm 73 = .ok (.iload_n 3, 1) := by decide +kernel
theorem dX3_arm_74 : decode cX3_arm 74 = .ok (.iastore, 1) := by decide +kernel
theorem dX3_arm_75 : decode cX3_arm 75 = .ok (.aload_n 0, 1) := by decide +kernel
theorem dX3_arm_76 : decode cX3_arm 76 = .ok (.getfield 15, 3) := by decide +kernel
theorem dX3_arm_79 : decode cX3_arm 79 = .ok (.bipush 41, 2) := by decide +kernel
theorem dX3_arm_81 : decode cX3_arm 81 = .ok (.invokevirtual 51, 3) := by decide +kernel
theorem dX3_arm_84 : decode cX3_arm 84 = .ok (.aload_n 0, 1) := by decide +kernel
theorem dX3_arm_85 : decode cX3_arm 85 = .ok (.getfield 15, 3) := by decide +kernel
theorem dX3_arm_88 : decode cX3_arm 88 = .ok (.sipush 136, 3) := by decide +kernel
theorem dX3_arm_91 : decode cX3_arm 91 = .ok (.invokevirtual 51, 3) := by decide +kernel
theorem dX3_arm_94 : decode cX3_arm 94 = .ok (.aload_n 0, 1) := by decide +kernel
theorem dX3_arm_95 : decode cX3_arm 95 = .ok (.iload_n 1, 1) := by decide +kernel
theorem dX3_arm_96 : decode cX3_arm 96 = .ok (.invokevirtual 96, 3) := by decide +kernel
theorem dX3_arm_99 : decode cX3_arm 99 = .ok (.return_, 1) := by decide +kernel
theorem dX3_assignment_0 : decode cX3_assignment 0 = .ok (.aload_n 0, 1) := by decide +kernel
theorem dX3_assignment_1 : decode cX3_assignment 1 = .ok (.getfield 15, 3) := by decide +kernel
theorem dX3_assignment_4 : decode cX3_assignment 4 = .ok (.getfield 45, 3) := by decide +kernel
theorem dX3_assignment_7 : decode cX3_assignment 7 = .ok (.istore_n 2, 1) := by decide +kernel
theorem dX3_assignment_8 : decode cX3_assignment 8 = .ok (.aload_n 0, 1) := by decide +kernel
theorem dX3_assignment_9 : decode cX3_assignment 9 = .ok (.iload_n 1, 1) := by decide +kernel
theorem dX3_assignment_10 : decode cX3_assignment 10 = .ok (.invokevirtual 118, 3) := by decide +kernel
theorem dX3_assignment_13 : decode cX3_assignment 13 = .ok (.istore_n 3, 1) := by decide +kernel
theorem dX3_assignment_14 : decode cX3_assignment 14 = .ok (.aload_n 0, 1) := by decide +kernel
theorem dX3_assignment_15 : decode cX3_assignment 15 = .ok (.getfield 15, 3) := by decide +kernel
theorem dX3_assignment_18 : decode cX3_assignment 18 = .ok (.invokevirtual 29, 3) := by decide +kernel
theorem dX3_assignment_21 : decode cX3_assignment 21 = .ok (.bipush 61, 2) := by decide +kernel
theorem dX3_assignment_23 : decode cX3_assignment 23 = .ok (.if_icmp .ne 37, 3) := by decide +kernel
theorem dX3_assignment_26 : decode cX3_assignment 26 = .ok (.iload_n 3, 1) := by decide +kernel
theorem dX3_assignment_27 : decode cX3_assignment 27 = .ok (.ifCond .eq 33, 3) := by decide +kernel
theorem dX3_assignment_30 : decode cX3_assignment 30 = .ok (.aload_n 0, 1) := by decide +kernel
theorem dX3_assignment_31 : decode cX3_assignment 31 = .ok (.getfield 15, 3) := by decide +kernel
theorem dX3_assignment_34 : decode cX3_assignment 34 = .ok (.getfield 124, 3) := by decide +kernel
theorem dX3_assignment_37 : decode cX3_assignment 37 = .ok (.iload_n 2, 1) := by decide +kernel
theorem dX3_assignment_38 : decode cX3_assignment 38 = .ok (.aload_n 0, 1) := by decide +kernel
theorem dX3_assignment_39 : decode cX3_assignment 39 = .ok (.getfield 15, 3) := by decide +kernel
theorem dX3_assignment_42 : decode cX3_assignment 42 = .ok (.getfield 45, 3) := by decide +kernel
theorem dX3_assignment_45 : decode cX3_assignment 45 = .ok (.iastore, 1) := by decide +kernel
theorem dX3_assignment_46 : decode cX3_assignment 46 = .ok (.aload_n 0, 1) := by decide +kernel
theorem dX3_assignment_47 : decode cX3_assignment 47 = .ok (.getfield 15, 3) := by decide +kernel
theorem dX3_assignment_50 : decode cX3_assignment 50 = .ok (.iconst 1, 1) := by decide +kernel
theorem dX3_assignment_51 : decode cX3_assignment 51 = .ok (.invokevirtual 48, 3) := by decide +kernel
theorem dX3_assignment_54 : decode cX3_assignment 54 = .ok (.aload_n 0, 1) := by decide +kernel
theorem dX3_assignment_55 : decode cX3_assignment 55 = .ok (.iload_n 1, 1) := by decide +kernel
theorem dX3_assignment_56 : decode cX3_assignment 56 = .ok (.invokevirtual 118, 3) := by decide +kernel
theorem dX3_assignment_59 : decode cX3_assignment 59 = .ok (.pop, 1) := by decide +kernel
theorem dX3_assignment_60 : decode cX3_assignment 60 = .ok (.aload_n 0, 1) := by decide +kernel
theorem dX3_assignment_61 : decode cX3_assignment 61 = .ok (.getfield 15, 3) := by decide +kernel
theorem dX3_assignment_64 : decode cX3_assignment 64 = .ok (.bipush 59, 2) := by decide +kernel
theorem dX3_assignment_66 : decode cX3_assignment 66 = .ok (.invokevirtual 51, 3) := by decide +kernel
theorem dX3_assignment_69 : decode cX3_assignment 69 = .ok (.return_, 1) := by decide +kernel
theorem dX3_binary_0 : decode cX3_binary 0 = .ok (.aload_n 0, 1) := by decide +kernel
theorem dX3_binary_1 : decode cX3_binary 1 = .ok (.iload_n 2, 1) := by decide +kernel
theorem dX3_binary_2 : decode cX3_binary 2 = .ok (.invokevirtual 136, 3) := by decide +kernel
theorem dX3_binary_5 : decode cX3_binary 5 = .ok (.istore_n 3, 1) := by decide +kernel
theorem dX3_binary_6 : decode cX3_binary 6 = .ok (.iconst 0, 1) := by decide +kernel
theorem dX3_binary_7 : decode cX3_binary 7 = .ok (.istore 4, 2) := by decide +kernel
theorem dX3_binary_9 : decode cX3_binary 9 = .ok (.iload 4, 2) := by decide +kernel
theorem dX3_binary_11 : decode cX3_binary 11 = .ok (.sipush 3002, 3) := by decide +kernel
theorem dX3_binary_14 : decode cX3_binary 14 = .ok (.if_icmp .ge 70, 3) := by decide +kernel
theorem dX3_binary_17 : decode cX3_binary 17 = .ok (.aload_n 0, 1) := by decide +kernel
theorem dX3_binary_18 : decode cX3_binary 18 = .ok (.getfield 15, 3) := by decide +kernel
theorem dX3_binary_21 : decode cX3_binary 21 = .ok (.invokevirtual 29, 3) := by decide +kernel
theorem dX3_binary_24 : decode cX3_binary 24 = .ok (.invokestatic 139, 3) := by decide +kernel
theorem dX3_binary_27 : decode cX3_binary 27 = .ok (.iload_n 1, 1) := by decide +kernel
theorem dX3_binary_28 : decode cX3_binary 28 = .ok (.if_icmp .lt 56, 3) := by decide +kernel
theorem dX3_binary_31 : decode cX3_binary 31 = .ok (.aload_n 0, 1) := by decide +kernel
theorem dX3_binary_32 : decode cX3_binary 32 = .ok (.getfield 15, 3) := by decide +kernel
theorem dX3_binary_35 : decode cX3_binary 35 = .ok (.invokevirtual 29, 3) := by decide +kernel
theorem dX3_binary_38 : decode cX3_binary 38 = .ok (.invokestatic 139, 3) := by decide +kernel
theorem dX3_binary_41 : decode cX3_binary 41 = .ok (.istore 5, 2) := by decide +kernel
theorem dX3_binary_43 : decode cX3_binary 43 = .ok (.iconst 0, 1) := by decide +kernel
theorem dX3_binary_44 : decode cX3_binary 44 = .ok (.istore_n 3, 1) := by decide +kernel
theorem dX3_binary_45 : decode cX3_binary 45 = .ok (.iload_n 2, 1) := by decide +kernel
theorem dX3_binary_46 : decode cX3_binary 46 = .ok (.bipush 16, 2) := by decide +kernel
theorem dX3_binary_48 : decode cX3_binary 48 = .ok (.if_icmp .ne 10, 3) := by decide +kernel
theorem dX3_binary_51 : decode cX3_binary 51 = .ok (.aload_n 0, 1) := by decide +kernel
theorem dX3_binary_52 : decode cX3_binary 52 = .ok (.invokevirtual 61, 3) := by decide +kernel
theorem dX3_binary_55 : decode cX3_binary 55 = .ok (.goto 23, 3) := by decide +kernel
theorem dX3_binary_58 : decode cX3_binary 58 = .ok (.aload_n 0, 1) := by decide +kernel
theorem dX3_binary_59 : decode cX3_binary 59 = .ok (.getfield 15, 3) := by decide +kernel
theorem dX3_binary_62 : decode cX3_binary 62 = .ok (.iconst 1, 1) := by decide +kernel
theorem dX3_binary_63 : decode cX3_binary 63 = .ok (.invokevirtual 48, 3) := by decide +kernel
theorem dX3_binary_66 : decode cX3_binary 66 = .ok (.aload_n 0, 1) := by decide +kernel
theorem dX3_binary_67 : decode cX3_binary 67 = .ok (.iload 5, 2) := by decide +kernel
theorem dX3_binary_69 : decode cX3_binary 69 = .ok (.iconst 1, 1) := by decide +kernel
theorem dX3_binary_70 : decode cX3_binary 70 = .ok (.iadd, 1) := by decide +kernel
theorem dX3_binary_71 : decode cX3_binary 71 = .ok (.iload_n 2, 1) := by decide +kernel
theorem dX3_binary_72 : decode cX3_binary 72 = .ok (.iconst 1, 1) := by decide +kernel
theorem dX3_binary_73 : decode cX3_binary 73 = .ok (.iadd, 1) := by decide +kernel
theorem dX3_binary_74 : decode cX3_binary 74 = .ok (.invokevirtual 133, 3) := by decide +kernel
theorem dX3_binary_77 : decode cX3_binary 77 = .ok (.pop, 1) := by decide +kernel
theorem dX3_binary_78 : decode cX3_binary 78 = .ok (.iinc 4 1, 3) := by decide +kernel
theorem dX3_binary_81 : decode cX3_binary 81 = .ok (.goto (-72), 3) := by decide +kernel
theorem dX3_binary_84 : decode cX3_binary 84 = .ok (.iload_n 3, 1) := by decide +kernel
theorem dX3_binary_85 : decode cX3_binary 85 = .ok (.ireturn, 1) := by decide +kernel
theorem dX3_block_0 : decode cX3_block 0 = .ok (.aload_n 0, 1) := by decide +kernel
theorem dX3_block_1 : decode cX3_block 1 = .ok (.bipush 123, 2) := by decide +kernel
theorem dX3_block_3 : decode cX3_block 3 = .ok (.iload_n 1, 1) := by decide +kernel
theorem dX3_block_4 : decode cX3_block 4 = .ok (.invokevirtual 102, 3) := by decide +kernel
theorem dX3_block_7 : decode cX3_block 7 = .ok (.ifCond .ne 4, 3) := by decide +kernel
theorem dX3_block_10 : decode cX3_block 10 = .ok (.return_, 1) := by decide +kernel
theorem dX3_block_11 : decode cX3_block 11 = .ok (.iconst 0, 1) := by decide +kernel
theorem dX3_block_12 : decode cX3_block 12 = .ok (.istore_n 2, 1) := by decide +kernel
theorem dX3_block_13 : decode cX3_block 13 = .ok (.iload_n 2, 1) := by decide +kernel
theorem dX3_block_14 : decode cX3_block 14 = .ok (.sipush 3002, 3) := by decide +kernel
theorem dX3_block_17 : decode cX3_block 17 = .ok (.if_icmp .ge 38, 3) := by decide +kernel
theorem dX3_block_20 : decode cX3_block 20 = .ok (.aload_n 0, 1) := by decide +kernel
theorem dX3_block_21 : decode cX3_block 21 = .ok (.getfield 15, 3) := by decide +kernel
theorem dX3_block_24 : decode cX3_block 24 = .ok (.invokevirtual 29, 3) := by decide +kernel
theorem dX3_block_27 : decode cX3_block 27 = .ok (.bipush 125, 2) := by decide +kernel
theorem dX3_block_29 : decode cX3_block 29 = .ok (.if_icmp .eq 26, 3) := by decide +kernel
theorem dX3_block_32 : decode cX3_block 32 = .ok (.aload_n 0, 1) := by decide +kernel
theorem dX3_block_33 : decode cX3_block 33 = .ok (.getfield 15, 3) := by decide +kernel
theorem dX3_block_36 : decode cX3_block 36 = .ok (.invokevirtual 29, 3) := by decide +kernel
theorem dX3_block_39 : decode cX3_block 39 = .ok (.ifCond .eq 16, 3) := by decide +kernel
theorem dX3_block_42 : decode cX3_block 42 = .ok (.aload_n 0, 1) := by decide +kernel
theorem dX3_block_43 : decode cX3_block 43 = .ok (.iload_n 1, 1) := by decide +kernel
theorem dX3_block_44 : decode cX3_block 44 = .ok (.iconst 1, 1) := by decide +kernel
theorem dX3_block_45 : decode cX3_block 45 = .ok (.iadd, 1) := by decide +kernel
theorem dX3_block_46 : decode cX3_block 46 = .ok (.invokevirtual 106, 3) := by decide +kernel
theorem dX3_block_49 : decode cX3_block 49 = .ok (.iinc 2 1, 3) := by decide +kernel
theorem dX3_block_52 : decode cX3_block 52 = .ok (.goto (-39), 3) := by decide +kernel
theorem dX3_block_55 : decode cX3_block 55 = .ok (.aload_n 0, 1) := by decide +kernel
theorem dX3_block_56 : decode cX3_block 56 = .ok (.getfield 15, 3) := by decide +kernel
theorem dX3_block_59 : decode cX3_block 59 = .ok (.bipush 125, 2) := by decide +kernel
theorem dX3_block_61 : decode cX3_block 61 = .ok (.invokevirtual 51, 3) := by decide +kernel
theorem dX3_block_64 : decode cX3_block 64 = .ok (.return_, 1) := by decide +kernel
theorem dX3_borrow_0 : decode cX3_borrow 0 = .ok (.aload_n 0, 1) := by decide +kernel
theorem dX3_borrow_1 : decode cX3_borrow 1 = .ok (.getfield 87, 3) := by decide +kernel
theorem dX3_borrow_4 : decode cX3_borrow 4 = .ok (.bipush 54, 2) := by decide +kernel
theorem dX3_borrow_6 : decode cX3_borrow 6 = .ok (.if_icmp .ne 7, 3) := by decide +kernel
theorem dX3_borrow_9 : decode cX3_borrow 9 = .ok (.aload_n 0, 1) := by decide +kernel
theorem dX3_borrow_10 : decode cX3_borrow 10 = .ok (.invokevirtual 61, 3) := by decide +kernel
theorem dX3_borrow_13 : decode cX3_borrow 13 = .ok (.aload_n 0, 1) := by decide +kernel
theorem dX3_borrow_14 : decode cX3_borrow 14 = .ok (.dup, 1) := by decide +kernel
theorem dX3_borrow_15 : decode cX3_borrow 15 = .ok (.getfield 87, 3) := by decide +kernel
theorem dX3_borrow_18 : decode cX3_borrow 18 = .ok (.iconst 1, 1) := by decide +kernel
theorem dX3_borrow_19 : decode cX3_borrow 19 = .ok (.iadd, 1) := by decide +kernel
theorem dX3_borrow_20 : decode cX3_borrow 20 = .ok (.putfield 87, 3) := by decide +kernel
theorem dX3_borrow_23 : decode cX3_borrow 23 = .ok (.return_, 1) := by decide +kernel
theorem dX3_bracketed_0 : decode cX3_bracketed 0 = .ok (.aload_n 0, 1) := by decide +kernel
theorem dX3_bracketed_1 : decode cX3_bracketed 1 = .ok (.bipush 40, 2) := by decide +kernel
theorem dX3_bracketed_3 : decode cX3_bracketed 3 = .ok (.iload_n 1, 1) := by decide +kernel
theorem dX3_bracketed_4 : decode cX3_bracketed 4 = .ok (.invokevirtual 102, 3) := by decide +kernel
theorem dX3_bracketed_7 : decode cX3_bracketed 7 = .ok (.ifCond .ne 5, 3) := by decide +kernel
theorem dX3_bracketed_10 : decode cX3_bracketed 10 = .ok (.iconst 0, 1) := by decide +kernel
theorem dX3_bracketed_11 : decode cX3_bracketed 11 = .ok (.ireturn, 1) := by decide +kernel
theorem dX3_bracketed_12 : decode cX3_bracketed 12 = .ok (.aload_n 0, 1) := by decide +kernel
theorem dX3_bracketed_13 : decode cX3_bracketed 13 = .ok (.iload_n 1, 1) := by decide +kernel
theorem dX3_bracketed_14 : decode cX3_bracketed 14 = .ok (.iconst 1, 1) := by decide +kernel
theorem dX3_bracketed_15 : decode cX3_bracketed 15 = .ok (.iadd, 1) := by decide +kernel
theorem dX3_bracketed_16 : decode cX3_bracketed 16 = .ok (.invokevirtual 118, 3) := by decide +kernel
theorem dX3_bracketed_19 : decode cX3_bracketed 19 = .ok (.istore_n 2, 1) := by decide +kernel
theorem dX3_bracketed_20 : decode cX3_bracketed 20 = .ok (.aload_n 0, 1) := by decide +kernel
theorem dX3_bracketed_21 : decode cX3_bracketed 21 = .ok (.getfield 15, 3) := by decide +kernel
theorem dX3_bracketed_24 : decode cX3_bracketed 24 = .ok (.bipush 41, 2) := by decide +kernel
theorem dX3_bracketed_26 : decode cX3_bracketed 26 = .ok (.invokevirtual 51, 3) := by decide +kernel
theorem dX3_bracketed_29 : decode cX3_bracketed 29 = .ok (.iload_n 2, 1) := by decide +kernel
theorem dX3_bracketed_30 : decode cX3_bracketed 30 = .ok (.ireturn, 1) := by decide +kernel
theorem dX3_branch_0 : decode cX3_branch 0 = .ok (.iconst 1, 1) := by decide +kernel
theorem dX3_branch_1 : decode cX3_branch 1 = .ok (.istore_n 2, 1) := by decide +kernel
theorem dX3_branch_2 : decode cX3_branch 2 = .ok (.iconst 0, 1) := by decide +kernel
theorem dX3_branch_3 : decode cX3_branch 3 = .ok (.istore_n 3, 1) := by decide +kernel
theorem dX3_branch_4 : decode cX3_branch 4 = .ok (.iload_n 3, 1) := by decide +kernel
theorem dX3_branch_5 : decode cX3_branch 5 = .ok (.sipush 3002, 3) := by decide +kernel
theorem dX3_branch_8 : decode cX3_branch 8 = .ok (.if_icmp .ge 81, 3) := by decide +kernel
theorem dX3_branch_11 : decode cX3_branch 11 = .ok (.iload_n 2, 1) := by decide +kernel
theorem dX3_branch_12 : decode cX3_branch 12 = .ok (.ifCond .eq 77, 3) := by decide +kernel
theorem dX3_branch_15 : decode cX3_branch 15 = .ok (.aload_n 0, 1) := by decide +kernel
theorem dX3_branch_16 : decode cX3_branch 16 = .ok (.getfield 15, 3) := by decide +kernel
theorem dX3_branch_19 : decode cX3_branch 19 = .ok (.bipush 10, 2) := by decide +kernel
theorem dX3_branch_21 : decode cX3_branch 21 = .ok (.invokevirtual 51, 3) := by decide +kernel
theorem dX3_branch_24 : decode cX3_branch 24 = .ok (.aload_n 0, 1) := by decide +kernel
theorem dX3_branch_25 : decode cX3_branch 25 = .ok (.iload_n 1, 1) := by decide +kernel
theorem dX3_branch_26 : decode cX3_branch 26 = .ok (.invokevirtual 118, 3) := by decide +kernel
theorem dX3_branch_29 : decode cX3_branch 29 = .ok (.pop, 1) := by decide +kernel
theorem dX3_branch_30 : decode cX3_branch 30 = .ok (.aload_n 0, 1) := by decide +kernel
theorem dX3_branch_31 : decode cX3_branch 31 = .ok (.iload_n 1, 1) := by decide +kernel
theorem dX3_branch_32 : decode cX3_branch 32 = .ok (.invokevirtual 96, 3) := by decide +kernel
theorem dX3_branch_35 : decode cX3_branch 35 = .ok (.aload_n 0, 1) := by decide +kernel
theorem dX3_branch_36 : decode cX3_branch 36 = .ok (.getfield 15, 3) := by decide +kernel
theorem dX3_branch_39 : decode cX3_branch 39 = .ok (.bipush 11, 2) := by decide +kernel
theorem dX3_branch_41 : decode cX3_branch 41 = .ok (.invokevirtual 67, 3) := by decide +kernel
theorem dX3_branch_44 : decode cX3_branch 44 = .ok (.istore 4, 2) := by decide +kernel
theorem dX3_branch_46 : decode cX3_branch 46 = .ok (.iload 4, 2) := by decide +kernel
theorem dX3_branch_48 : decode cX3_branch 48 = .ok (.ifCond .eq 19, 3) := by decide +kernel
theorem dX3_branch_51 : decode cX3_branch 51 = .ok (.aload_n 0, 1) := by decide +kernel
theorem dX3_branch_52 : decode cX3_branch 52 = .ok (.getfield 15, 3) := by decide +kernel
theorem dX3_branch_55 : decode cX3_branch 55 = .ok (.invokevirtual 29, 3) := by decide +kernel
theorem dX3_branch_58 : decode cX3_branch 58 = .ok (.bipush 10, 2) := by decide +kernel
theorem dX3_branch_60 : decode cX3_branch 60 = .ok (.if_icmp .ne 7, 3) := by decide +kernel
theorem dX3_branch_63 : decode cX3_branch 63 = .ok (.iconst 1, 1) := by decide +kernel
theorem dX3_branch_64 : decode cX3_branch 64 = .ok (.goto 4, 3) := by decide +kernel
theorem dX3_branch_67 : decode cX3_branch 67 = .ok (.iconst 0, 1) := by decide +kernel
theorem dX3_branch_68 : decode cX3_branch 68 = .ok (.istore_n 2, 1) := by decide +kernel
theorem dX3_branch_69 : decode cX3_branch 69 = .ok (.iload 4, 2) := by decide +kernel
theorem dX3_branch_71 : decode cX3_branch 71 = .ok (.ifCond .eq 12, 3) := by decide +kernel
theorem dX3_branch_74 : decode cX3_branch 74 = .ok (.iload_n 2, 1) := by decide +kernel
theorem dX3_branch_75 : decode cX3_branch 75 = .ok (.ifCond .ne 8, 3) := by decide +kernel
theorem dX3_branch_78 : decode cX3_branch 78 = .ok (.aload_n 0, 1) := by decide +kernel
theorem dX3_branch_79 : decode cX3_branch 79 = .ok (.iload_n 1, 1) := by decide +kernel
theorem dX3_branch_80 : decode cX3_branch 80 = .ok (.invokevirtual 96, 3) := by decide +kernel
theorem dX3_branch_83 : decode cX3_branch 83 = .ok (.iinc 3 1, 3) := by decide +kernel
theorem dX3_branch_86 : decode cX3_branch 86 = .ok (.goto (-82), 3) := by decide +kernel
theorem dX3_branch_89 : decode cX3_branch 89 = .ok (.return_, 1) := by decide +kernel
theorem dX3_built_0 : decode cX3_built 0 = .ok (.aload_n 0, 1) := by decide +kernel
theorem dX3_built_1 : decode cX3_built 1 = .ok (.getfield 15, 3) := by decide +kernel
theorem dX3_built_4 : decode cX3_built 4 = .ok (.iconst 1, 1) := by decide +kernel
theorem dX3_built_5 : decode cX3_built 5 = .ok (.invokevirtual 48, 3) := by decide +kernel
theorem dX3_built_8 : decode cX3_built 8 = .ok (.aload_n 0, 1) := by decide +kernel
theorem dX3_built_9 : decode cX3_built 9 = .ok (.getfield 15, 3) := by decide +kernel
theorem dX3_built_12 : decode cX3_built 12 = .ok (.iconst 2, 1) := by decide +kernel
theorem dX3_built_13 : decode cX3_built 13 = .ok (.invokevirtual 51, 3) := by decide +kernel
theorem dX3_built_16 : decode cX3_built 16 = .ok (.aload_n 0, 1) := by decide +kernel
theorem dX3_built_17 : decode cX3_built 17 = .ok (.bipush 123, 2) := by decide +kernel
theorem dX3_built_19 : decode cX3_built 19 = .ok (.iload_n 1, 1) := by decide +kernel
theorem dX3_built_20 : decode cX3_built 20 = .ok (.invokevirtual 102, 3) := by decide +kernel
theorem dX3_built_23 : decode cX3_built 23 = .ok (.ifCond .ne 4, 3) := by decide +kernel
theorem dX3_built_26 : decode cX3_built 26 = .ok (.return_, 1) := by decide +kernel
theorem dX3_built_27 : decode cX3_built 27 = .ok (.iconst 0, 1) := by decide +kernel
theorem dX3_built_28 : decode cX3_built 28 = .ok (.istore_n 2, 1) := by decide +kernel
theorem dX3_built_29 : decode cX3_built 29 = .ok (.iload_n 2, 1) := by decide +kernel
theorem dX3_built_30 : decode cX3_built 30 = .ok (.sipush 3002, 3) := by decide +kernel
theorem dX3_built_33 : decode cX3_built 33 = .ok (.if_icmp .ge 50, 3) := by decide +kernel
theorem dX3_built_36 : decode cX3_built 36 = .ok (.iload_n 2, 1) := by decide +kernel
theorem dX3_built_37 : decode cX3_built 37 = .ok (.ifCond .eq 15, 3) := by decide +kernel
theorem dX3_built_40 : decode cX3_built 40 = .ok (.aload_n 0, 1) := by decide +kernel
theorem dX3_built_41 : decode cX3_built 41 = .ok (.getfield 15, 3) := by decide +kernel
theorem dX3_built_44 : decode cX3_built 44 = .ok (.bipush 44, 2) := by decide +kernel
theorem dX3_built_46 : decode cX3_built 46 = .ok (.invokevirtual 67, 3) := by decide +kernel
theorem dX3_built_49 : decode cX3_built 49 = .ok (.ifCond .eq 34, 3) := by decide +kernel
theorem dX3_built_52 : decode cX3_built 52 = .ok (.aload_n 0, 1) := by decide +kernel
theorem dX3_built_53 : decode cX3_built 53 = .ok (.getfield 15, 3) := by decide +kernel
theorem dX3_built_56 : decode cX3_built 56 = .ok (.iconst 2, 1) := by decide +kernel
theorem dX3_built_57 : decode cX3_built 57 = .ok (.invokevirtual 51, 3) := by decide +kernel
theorem dX3_built_60 : decode cX3_built 60 = .ok (.aload_n 0, 1) := by decide +kernel
theorem dX3_built_61 : decode cX3_built 61 = .ok (.getfield 15, 3) := by decide +kernel
theorem dX3_built_64 : decode cX3_built 64 = .ok (.bipush 58, 2) := by decide +kernel
theorem dX3_built_66 : decode cX3_built 66 = .ok (.invokevirtual 51, 3) := by decide +kernel
theorem dX3_built_69 : decode cX3_built 69 = .ok (.aload_n 0, 1) := by decide +kernel
theorem dX3_built_70 : decode cX3_built 70 = .ok (.iload_n 1, 1) := by decide +kernel
theorem dX3_built_71 : decode cX3_built 71 = .ok (.iconst 1, 1) := by decide +kernel
theorem dX3_built_72 : decode cX3_built 72 = .ok (.iadd, 1) := by decide +kernel
theorem dX3_built_73 : decode cX3_built 73 = .ok (.invokevirtual 118, 3) := by decide +kernel
theorem dX3_built_76 : decode cX3_built 76 = .ok (.pop, 1) := by decide +kernel
theorem dX3_built_77 : decode cX3_built 77 = .ok (.iinc 2 1, 3) := by decide +kernel
theorem dX3_built_80 : decode cX3_built 80 = .ok (.goto (-51), 3) := by decide +kernel
theorem dX3_built_83 : decode cX3_built 83 = .ok (.aload_n 0, 1) := by decide +kernel
theorem dX3_built_84 : decode cX3_built 84 = .ok (.getfield 15, 3) := by decide +kernel
theorem dX3_built_87 : decode cX3_built 87 = .ok (.bipush 125, 2) := by decide +kernel
theorem dX3_built_89 : decode cX3_built 89 = .ok (.invokevirtual 51, 3) := by decide +kernel
theorem dX3_built_92 : decode cX3_built 92 = .ok (.return_, 1) := by decide +kernel
theorem dX3_exp_0 : decode cX3_exp 0 = .ok (.aload_n 0, 1) := by decide +kernel
theorem dX3_exp_1 : decode cX3_exp 1 = .ok (.iconst 1, 1) := by decide +kernel
theorem dX3_exp_2 : decode cX3_exp 2 = .ok (.iload_n 1, 1) := by decide +kernel
theorem dX3_exp_3 : decode cX3_exp 3 = .ok (.invokevirtual 133, 3) := by decide +kernel
theorem dX3_exp_6 : decode cX3_exp 6 = .ok (.ireturn, 1) := by decide +kernel
theorem dX3_exps_0 : decode cX3_exps 0 = .ok (.aload_n 0, 1) := by decide +kernel
theorem dX3_exps_1 : decode cX3_exps 1 = .ok (.getfield 15, 3) := by decide +kernel
theorem dX3_exps_4 : decode cX3_exps 4 = .ok (.getfield 45, 3) := by decide +kernel
theorem dX3_exps_7 : decode cX3_exps 7 = .ok (.istore_n 3, 1) := by decide +kernel
theorem dX3_exps_8 : decode cX3_exps 8 = .ok (.aload_n 0, 1) := by decide +kernel
theorem dX3_exps_9 : decode cX3_exps 9 = .ok (.bipush 40, 2) := by decide +kernel
theorem dX3_exps_11 : decode cX3_exps 11 = .ok (.iload_n 1, 1) := by decide +kernel
theorem dX3_exps_12 : decode cX3_exps 12 = .ok (.invokevirtual 102, 3) := by decide +kernel
theorem dX3_exps_15 : decode cX3_exps 15 = .ok (.ifCond .ne 4, 3) := by decide +kernel
theorem dX3_exps_18 : decode cX3_exps 18 = .ok (.return_, 1) := by decide +kernel
theorem dX3_exps_19 : decode cX3_exps 19 = .ok (.iconst 0, 1) := by decide +kernel
theorem dX3_exps_20 : decode cX3_exps 20 = .ok (.istore 4, 2) := by decide +kernel
theorem dX3_exps_22 : decode cX3_exps 22 = .ok (.iload_n 2, 1) := by decide +kernel
theorem dX3_exps_23 : decode cX3_exps 23 = .ok (.ifCond .gt 15, 3) := by decide +kernel
theorem dX3_exps_26 : decode cX3_exps 26 = .ok (.aload_n 0, 1) := by decide +kernel
theorem dX3_exps_27 : decode cX3_exps 27 = .ok (.getfield 15, 3) := by decide +kernel
theorem dX3_exps_30 : decode cX3_exps 30 = .ok (.invokevirtual 29, 3) := by decide +kernel
theorem dX3_exps_33 : decode cX3_exps 33 = .ok (.bipush 41, 2) := by decide +kernel
theorem dX3_exps_35 : decode cX3_exps 35 = .ok (.if_icmp .eq 48, 3) := by decide +kernel
theorem dX3_exps_38 : decode cX3_exps 38 = .ok (.iconst 0, 1) := by decide +kernel
theorem dX3_exps_39 : decode cX3_exps 39 = .ok (.istore 5, 2) := by decide +kernel
theorem dX3_exps_41 : decode cX3_exps 41 = .ok (.iload 5, 2) := by decide +kernel
theorem dX3_exps_43 : decode cX3_exps 43 = .ok (.sipush 3002, 3) := by decide +kernel
theorem dX3_exps_46 : decode cX3_exps 46 = .ok (.if_icmp .ge 37, 3) := by decide +kernel
theorem dX3_exps_49 : decode cX3_exps 49 = .ok (.iload 5, 2) := by decide +kernel
theorem dX3_exps_51 : decode cX3_exps 51 = .ok (.ifCond .eq 15, 3) := by decide +kernel
theorem dX3_exps_54 : decode cX3_exps 54 = .ok (.aload_n 0, 1) := by decide +kernel
theorem dX3_exps_55 : decode cX3_exps 55 = .ok (.getfield 15, 3) := by decide +kernel
theorem dX3_exps_58 : decode cX3_exps 58 = .ok (.bipush 44, 2) := by decide +kernel
theorem dX3_exps_60 : decode cX3_exps 60 = .ok (.invokevirtual 67, 3) := by decide +kernel
theorem dX3_exps_63 : decode cX3_exps 63 = .ok (.ifCond .eq 20, 3) := by decide +kernel
theorem dX3_exps_66 : decode cX3_exps 66 = .ok (.aload_n 0, 1) := by decide +kernel
theorem dX3_exps_67 : decode cX3_exps 67 = .ok (.iload_n 1, 1) := by decide +kernel
theorem dX3_exps_68 : decode cX3_exps 68 = .ok (.iconst 1, 1) := by decide +kernel
theorem dX3_exps_69 : decode cX3_exps 69 = .ok (.iadd, 1) := by decide +kernel
theorem dX3_exps_70 : decode cX3_exps 70 = .ok (.invokevirtual 118, 3) := by decide +kernel
theorem dX3_exps_73 : decode cX3_exps 73 = .ok (.pop, 1) := by decide +kernel
theorem dX3_exps_74 : decode cX3_exps 74 = .ok (.iinc 4 1, 3) := by decide +kernel
theorem dX3_exps_77 : decode cX3_exps 77 = .ok (.iinc 5 1, 3) := by decide +kernel
theorem dX3_exps_80 : decode cX3_exps 80 = .ok (.goto (-39), 3) := by decide +kernel
theorem dX3_exps_83 : decode cX3_exps 83 = .ok (.aload_n 0, 1) := by decide +kernel
theorem dX3_exps_84 : decode cX3_exps 84 = .ok (.getfield 15, 3) := by decide +kernel
theorem dX3_exps_87 : decode cX3_exps 87 = .ok (.getfield 124, 3) := by decide +kernel
theorem dX3_exps_90 : decode cX3_exps 90 = .ok (.iload_n 3, 1) := by decide +kernel
theorem dX3_exps_91 : decode cX3_exps 91 = .ok (.iload 4, 2) := by decide +kernel
theorem dX3_exps_93 : decode cX3_exps 93 = .ok (.iastore, 1) := by decide +kernel
theorem dX3_exps_94 : decode cX3_exps 94 = .ok (.aload_n 0, 1) := by decide +kernel
theorem dX3_exps_95 : decode cX3_exps 95 = .ok (.getfield 15, 3) := by decide +kernel
theorem dX3_exps_98 : decode cX3_exps 98 = .ok (.bipush 41, 2) := by decide +kernel
theorem dX3_exps_100 : decode cX3_exps 100 = .ok (.invokevirtual 51, 3) := by decide +kernel
theorem dX3_exps_103 : decode cX3_exps 103 = .ok (.return_, 1) := by decide +kernel
theorem dX3_function_0 : decode cX3_function 0 = .ok (.aload_n 0, 1) := by decide +kernel
theorem dX3_function_1 : decode cX3_function 1 = .ok (.getfield 26, 3) := by decide +kernel
theorem dX3_function_4 : decode cX3_function 4 = .ok (.bipush 40, 2) := by decide +kernel
theorem dX3_function_6 : decode cX3_function 6 = .ok (.if_icmp .ne 8, 3) := by decide +kernel
theorem dX3_function_9 : decode cX3_function 9 = .ok (.aload_n 0, 1) := by decide +kernel
theorem dX3_function_10 : decode cX3_function 10 = .ok (.invokevirtual 61, 3) := by decide +kernel
theorem dX3_function_13 : decode cX3_function 13 = .ok (.return_, 1) := by decide +kernel
theorem dX3_function_14 : decode cX3_function 14 = .ok (.aload_n 0, 1) := by decide +kernel
theorem dX3_function_15 : decode cX3_function 15 = .ok (.dup, 1) := by decide +kernel
theorem dX3_function_16 : decode cX3_function 16 = .ok (.getfield 26, 3) := by decide +kernel
theorem dX3_function_19 : decode cX3_function 19 = .ok (.iconst 1, 1) := by decide +kernel
theorem dX3_function_20 : decode cX3_function 20 = .ok (.iadd, 1) := by decide +kernel
theorem dX3_function_21 : decode cX3_function 21 = .ok (.putfield 26, 3) := by decide +kernel
theorem dX3_function_24 : decode cX3_function 24 = .ok (.aload_n 0, 1) := by decide +kernel
theorem dX3_function_25 : decode cX3_function 25 = .ok (.iconst 0, 1) := by decide +kernel
theorem dX3_function_26 : decode cX3_function 26 = .ok (.putfield 84, 3) := by decide +kernel
theorem dX3_function_29 : decode cX3_function 29 = .ok (.aload_n 0, 1) := by decide +kernel
theorem dX3_function_30 : decode cX3_function 30 = .ok (.iconst 0, 1) := by decide +kernel
theorem dX3_function_31 : decode cX3_function 31 = .ok (.putfield 87, 3) := by decide +kernel
theorem dX3_function_34 : decode cX3_function 34 = .ok (.aload_n 0, 1) := by decide +kernel
theorem dX3_function_35 : decode cX3_function 35 = .ok (.invokevirtual 64, 3) := by decide +kernel
theorem dX3_function_38 : decode cX3_function 38 = .ok (.aload_n 0, 1) := by decide +kernel
theorem dX3_function_39 : decode cX3_function 39 = .ok (.getfield 15, 3) := by decide +kernel
theorem dX3_function_42 : decode cX3_function 42 = .ok (.bipush 60, 2) := by decide +kernel
theorem dX3_function_44 : decode cX3_function 44 = .ok (.invokevirtual 67, 3) := by decide +kernel
theorem dX3_function_47 : decode cX3_function 47 = .ok (.ifCond .eq 7, 3) := by decide +kernel
theorem dX3_function_50 : decode cX3_function 50 = .ok (.aload_n 0, 1) := by decide +kernel
theorem dX3_function_51 : decode cX3_function 51 = .ok (.invokevirtual 90, 3) := by decide +kernel
theorem dX3_function_54 : decode cX3_function 54 = .ok (.aload_n 0, 1) := by decide +kernel
theorem dX3_function_55 : decode cX3_function 55 = .ok (.getfield 15, 3) := by decide +kernel
theorem dX3_function_58 : decode cX3_function 58 = .ok (.bipush 40, 2) := by decide +kernel
theorem dX3_function_60 : decode cX3_function 60 = .ok (.invokevirtual 51, 3) := by decide +kernel
theorem dX3_function_63 : decode cX3_function 63 = .ok (.aload_n 0, 1) := by decide +kernel
theorem dX3_function_64 : decode cX3_function 64 = .ok (.getfield 15, 3) := by decide +kernel
theorem dX3_function_67 : decode cX3_function 67 = .ok (.bipush 41, 2) := by decide +kernel
theorem dX3_function_69 : decode cX3_function 69 = .ok (.invokevirtual 67, 3) := by decide +kernel
theorem dX3_function_72 : decode cX3_function 72 = .ok (.ifCond .ne 7, 3) := by decide +kernel
theorem dX3_function_75 : decode cX3_function 75 = .ok (.aload_n 0, 1) := by decide +kernel
theorem dX3_function_76 : decode cX3_function 76 = .ok (.invokevirtual 93, 3) := by decide +kernel
theorem dX3_function_79 : decode cX3_function 79 = .ok (.aload_n 0, 1) := by decide +kernel
theorem dX3_function_80 : decode cX3_function 80 = .ok (.getfield 15, 3) := by decide +kernel
theorem dX3_function_83 : decode cX3_function 83 = .ok (.sipush 135, 3) := by decide +kernel
theorem dX3_function_86 : decode cX3_function 86 = .ok (.invokevirtual 67, 3) := by decide +kernel
theorem dX3_function_89 : decode cX3_function 89 = .ok (.ifCond .eq 8, 3) := by decide +kernel
theorem dX3_function_92 : decode cX3_function 92 = .ok (.aload_n 0, 1) := by decide +kernel
theorem dX3_function_93 : decode cX3_function 93 = .ok (.iconst 0, 1) := by decide +kernel
theorem dX3_function_94 : decode cX3_function 94 = .ok (.invokevirtual 74, 3) := by decide +kernel
theorem dX3_function_97 : decode cX3_function 97 = .ok (.aload_n 0, 1) := by decide +kernel
theorem dX3_function_98 : decode cX3_function 98 = .ok (.iconst 0, 1) := by decide +kernel
theorem dX3_function_99 : decode cX3_function 99 = .ok (.invokevirtual 96, 3) := by decide +kernel
theorem dX3_function_102 : decode cX3_function 102 = .ok (.return_, 1) := by decide +kernel
theorem dX3_init_0 : decode cX3_init 0 = .ok (.aload_n 0, 1) := by decide +kernel
theorem dX3_init_1 : decode cX3_init 1 = .ok (.invokespecial 3, 3) := by decide +kernel
theorem dX3_init_4 : decode cX3_init 4 = .ok (.aload_n 0, 1) := by decide +kernel
theorem dX3_init_5 : decode cX3_init 5 = .ok (.bipush 70, 2) := by decide +kernel
theorem dX3_init_7 : decode cX3_init 7 = .ok (.newarray .int, 2) := by decide +kernel
theorem dX3_init_9 : decode cX3_init 9 = .ok (.putfield 9, 3) := by decide +kernel
theorem dX3_init_12 : decode cX3_init 12 = .ok (.aload_n 0, 1) := by decide +kernel
theorem dX3_init_13 : decode cX3_init 13 = .ok (.aload_n 1, 1) := by decide +kernel
theorem dX3_init_14 : decode cX3_init 14 = .ok (.putfield 15, 3) := by decide +kernel
theorem dX3_init_17 : decode cX3_init 17 = .ok (.return_, 1) := by decide +kernel
theorem dX3_isPlainType_0 : decode cX3_isPlainType 0 = .ok (.iload_n 0, 1) := by decide +kernel
theorem dX3_isPlainType_1 : decode cX3_isPlainType 1 = .ok (.bipush 22, 2) := by decide +kernel
theorem dX3_isPlainType_3 : decode cX3_isPlainType 3 = .ok (.if_icmp .eq 20, 3) := by decide +kernel
theorem dX3_isPlainType_6 : decode cX3_isPlainType 6 = .ok (.iload_n 0, 1) := by decide +kernel
theorem dX3_isPlainType_7 : decode cX3_isPlainType 7 = .ok (.bipush 23, 2) := by decide +kernel
theorem dX3_isPlainType_9 : decode cX3_isPlainType 9 = .ok (.if_icmp .eq 14, 3) := by decide +kernel
theorem dX3_isPlainType_12 : decode cX3_isPlainType 12 = .ok (.iload_n 0, 1) := by decide +kernel
theorem dX3_isPlainType_13 : decode cX3_isPlainType 13 = .ok (.bipush 21, 2) := by decide +kernel
theorem dX3_isPlainType_15 : decode cX3_isPlainType 15 = .ok (.if_icmp .eq 8, 3) := by decide +kernel
theorem dX3_isPlainType_18 : decode cX3_isPlainType 18 = .ok (.iload_n 0, 1) := by decide +kernel
theorem dX3_isPlainType_19 : decode cX3_isPlainType 19 = .ok (.iconst 2, 1) := by decide +kernel
theorem dX3_isPlainType_20 : decode cX3_isPlainType 20 = .ok (.if_icmp .ne 7, 3) := by decide +kernel
theorem dX3_isPlainType_23 : decode cX3_isPlainType 23 = .ok (.iconst 1, 1) := by decide +kernel
theorem dX3_isPlainType_24 : decode cX3_isPlainType 24 = .ok (.goto 4, 3) := by decide +kernel
theorem dX3_isPlainType_27 : decode cX3_isPlainType 27 = .ok (.iconst 0, 1) := by decide +kernel
theorem dX3_isPlainType_28 : decode cX3_isPlainType 28 = .ok (.ireturn, 1) := by decide +kernel
theorem dX3_let_0 : decode cX3_let 0 = .ok (.aload_n 0, 1) := by decide +kernel
theorem dX3_let_1 : decode cX3_let 1 = .ok (.getfield 15, 3) := by decide +kernel
theorem dX3_let_4 : decode cX3_let 4 = .ok (.iconst 1, 1) := by decide +kernel
theorem dX3_let_5 : decode cX3_let 5 = .ok (.invokevirtual 48, 3) := by decide +kernel
theorem dX3_let_8 : decode cX3_let 8 = .ok (.aload_n 0, 1) := by decide +kernel
theorem dX3_let_9 : decode cX3_let 9 = .ok (.getfield 15, 3) := by decide +kernel
theorem dX3_let_12 : decode cX3_let 12 = .ok (.bipush 9, 2) := by decide +kernel
theorem dX3_let_14 : decode cX3_let 14 = .ok (.invokevirtual 67, 3) := by decide +kernel
theorem dX3_let_17 : decode cX3_let 17 = .ok (.pop, 1) := by decide +kernel
theorem dX3_let_18 : decode cX3_let 18 = .ok (.aload_n 0, 1) := by decide +kernel
theorem dX3_let_19 : decode cX3_let 19 = .ok (.iconst 0, 1) := by decide +kernel
theorem dX3_let_20 : decode cX3_let 20 = .ok (.invokevirtual 99, 3) := by decide +kernel
theorem dX3_let_23 : decode cX3_let 23 = .ok (.aload_n 0, 1) := by decide +kernel
theorem dX3_let_24 : decode cX3_let 24 = .ok (.getfield 15, 3) := by decide +kernel
theorem dX3_let_27 : decode cX3_let 27 = .ok (.bipush 58, 2) := by decide +kernel
theorem dX3_let_29 : decode cX3_let 29 = .ok (.invokevirtual 67, 3) := by decide +kernel
theorem dX3_let_32 : decode cX3_let 32 = .ok (.ifCond .eq 8, 3) := by decide +kernel
theorem dX3_let_35 : decode cX3_let 35 = .ok (.aload_n 0, 1) := by decide +kernel
theorem dX3_let_36 : decode cX3_let 36 = .ok (.iload_n 1, 1) := by decide +kernel
theorem dX3_let_37 : decode cX3_let 37 = .ok (.invokevirtual 74, 3) := by decide +kernel
theorem dX3_let_40 : decode cX3_let 40 = .ok (.aload_n 0, 1) := by decide +kernel
theorem dX3_let_41 : decode cX3_let 41 = .ok (.getfield 15, 3) := by decide +kernel
theorem dX3_let_44 : decode cX3_let 44 = .ok (.bipush 61, 2) := by decide +kernel
theorem dX3_let_46 : decode cX3_let 46 = .ok (.invokevirtual 67, 3) := by decide +kernel
theorem dX3_let_49 : decode cX3_let 49 = .ok (.ifCond .eq 9, 3) := by decide +kernel
theorem dX3_let_52 : decode cX3_let 52 = .ok (.aload_n 0, 1) := by decide +kernel
theorem dX3_let_53 : decode cX3_let 53 = .ok (.iload_n 1, 1) := by decide +kernel
theorem dX3_let_54 : decode cX3_let 54 = .ok (.invokevirtual 118, 3) := by decide +kernel
theorem dX3_let_57 : decode cX3_let 57 = .ok (.pop, 1) := by decide +kernel
theorem dX3_let_58 : decode cX3_let 58 = .ok (.aload_n 0, 1) := by decide +kernel
theorem dX3_let_59 : decode cX3_let 59 = .ok (.getfield 15, 3) := by decide +kernel
theorem dX3_let_62 : decode cX3_let 62 = .ok (.bipush 59, 2) := by decide +kernel
theorem dX3_let_64 : decode cX3_let 64 = .ok (.invokevirtual 51, 3) := by decide +kernel
theorem dX3_let_67 : decode cX3_let 67 = .ok (.return_, 1) := by decide +kernel
theorem dX3_limit_0 : decode cX3_limit 0 = .ok (.aload_n 0, 1) := by decide +kernel
theorem dX3_limit_1 : decode cX3_limit 1 = .ok (.getfield 15, 3) := by decide +kernel
theorem dX3_limit_4 : decode cX3_limit 4 = .ok (.iconst 2, 1) := by decide +kernel
theorem dX3_limit_5 : decode cX3_limit 5 = .ok (.aload_n 0, 1) := by decide +kernel
theorem dX3_limit_6 : decode cX3_limit 6 = .ok (.getfield 15, 3) := by decide +kernel
theorem dX3_limit_9 : decode cX3_limit 9 = .ok (.invokevirtual 54, 3) := by decide +kernel
theorem dX3_limit_12 : decode cX3_limit 12 = .ok (.invokevirtual 57, 3) := by decide +kernel
theorem dX3_limit_15 : decode cX3_limit 15 = .ok (.return_, 1) := by decide +kernel
theorem dX3_lives_0 : decode cX3_lives 0 = .ok (.iconst 0, 1) := by decide +kernel
theorem dX3_lives_1 : decode cX3_lives 1 = .ok (.istore_n 1, 1) := by decide +kernel
theorem dX3_lives_2 : decode cX3_lives 2 = .ok (.iload_n 1, 1) := by decide +kernel
theorem dX3_lives_3 : decode cX3_lives 3 = .ok (.sipush 3002, 3) := by decide +kernel
theorem dX3_lives_6 : decode cX3_lives 6 = .ok (.if_icmp .ge 54, 3) := by decide +kernel
theorem dX3_lives_9 : decode cX3_lives 9 = .ok (.iload_n 1, 1) := by decide +kernel
theorem dX3_lives_10 : decode cX3_lives 10 = .ok (.ifCond .eq 15, 3) := by decide +kernel
theorem dX3_lives_13 : decode cX3_lives 13 = .ok (.aload_n 0, 1) := by decide +kernel
theorem dX3_lives_14 : decode cX3_lives 14 = .ok (.getfield 15, 3) := by decide +kernel
theorem dX3_lives_17 : decode cX3_lives 17 = .ok (.bipush 44, 2) := by decide +kernel
theorem dX3_lives_19 : decode cX3_lives 19 = .ok (.invokevirtual 67, 3) := by decide +kernel
theorem dX3_lives_22 : decode cX3_lives 22 = .ok (.ifCond .eq 38, 3) := by decide +kernel
theorem dX3_lives_25 : decode cX3_lives 25 = .ok (.aload_n 0, 1) := by decide +kernel
theorem dX3_lives_26 : decode cX3_lives 26 = .ok (.getfield 15, 3) := by decide +kernel
theorem dX3_lives_29 : decode cX3_lives 29 = .ok (.invokevirtual 29, 3) := by decide +kernel
theorem dX3_lives_32 : decode cX3_lives 32 = .ok (.iconst 3, 1) := by decide +kernel
theorem dX3_lives_33 : decode cX3_lives 33 = .ok (.if_icmp .ne 13, 3) := by decide +kernel
theorem dX3_lives_36 : decode cX3_lives 36 = .ok (.iload_n 1, 1) := by decide +kernel
theorem dX3_lives_37 : decode cX3_lives 37 = .ok (.bipush 8, 2) := by decide +kernel
theorem dX3_lives_39 : decode cX3_lives 39 = .ok (.if_icmp .ne 7, 3) := by decide +kernel
theorem dX3_lives_42 : decode cX3_lives 42 = .ok (.aload_n 0, 1) := by decide +kernel
theorem dX3_lives_43 : decode cX3_lives 43 = .ok (.invokevirtual 61, 3) := by decide +kernel
theorem dX3_lives_46 : decode cX3_lives 46 = .ok (.aload_n 0, 1) := by decide +kernel
theorem dX3_lives_47 : decode cX3_lives 47 = .ok (.getfield 15, 3) := by decide +kernel
theorem dX3_lives_50 : decode cX3_lives 50 = .ok (.iconst 3, 1) := by decide +kernel
theorem dX3_lives_51 : decode cX3_lives 51 = .ok (.invokevirtual 51, 3) := by decide +kernel
theorem dX3_lives_54 : decode cX3_lives 54 = .ok (.iinc 1 1, 3) := by decide +kernel
theorem dX3_lives_57 : decode cX3_lives 57 = .ok (.goto (-55), 3) := by decide +kernel
theorem dX3_lives_60 : decode cX3_lives 60 = .ok (.aload_n 0, 1) := by decide +kernel
theorem dX3_lives_61 : decode cX3_lives 61 = .ok (.getfield 15, 3) := by decide +kernel
theorem dX3_lives_64 : decode cX3_lives 64 = .ok (.bipush 62, 2) := by decide +kernel
theorem dX3_lives_66 : decode cX3_lives 66 = .ok (.invokevirtual 51, 3) := by decide +kernel
theorem dX3_lives_69 : decode cX3_lives 69 = .ok (.return_, 1) := by decide +kernel
theorem dX3_match_0 : decode cX3_match 0 = .ok (.aload_n 0, 1) := by decide +kernel
theorem dX3_match_1 : decode cX3_match 1 = .ok (.getfield 15, 3) := by decide +kernel
theorem dX3_match_4 : decode cX3_match 4 = .ok (.iconst 1, 1) := by decide +kernel
theorem dX3_match_5 : decode cX3_match 5 = .ok (.invokevirtual 48, 3) := by decide +kernel
theorem dX3_match_8 : decode cX3_match 8 = .ok (.aload_n 0, 1) := by decide +kernel
theorem dX3_match_9 : decode cX3_match 9 = .ok (.getfield 15, 3) := by decide +kernel
theorem dX3_match_12 : decode cX3_match 12 = .ok (.invokevirtual 29, 3) := by decide +kernel
theorem dX3_match_15 : decode cX3_match 15 = .ok (.bipush 38, 2) := by decide +kernel
theorem dX3_match_17 : decode cX3_match 17 = .ok (.if_icmp .ne 7, 3) := by decide +kernel
theorem dX3_match_20 : decode cX3_match 20 = .ok (.iconst 1, 1) := by decide +kernel
theorem dX3_match_21 : decode cX3_match 21 = .ok (.goto 4, 3) := by decide +kernel
theorem dX3_match_24 : decode cX3_match 24 = .ok (.iconst 0, 1) := by decide +kernel
theorem dX3_match_25 : decode cX3_match 25 = .ok (.istore_n 2, 1) := by decide +kernel
theorem dX3_match_26 : decode cX3_match 26 = .ok (.iload_n 2, 1) := by decide +kernel
theorem dX3_match_27 : decode cX3_match 27 = .ok (.ifCond .eq 25, 3) := by decide +kernel
theorem dX3_match_30 : decode cX3_match 30 = .ok (.aload_n 0, 1) := by decide +kernel
theorem dX3_match_31 : decode cX3_match 31 = .ok (.invokevirtual 127, 3) := by decide +kernel
theorem dX3_match_34 : decode cX3_match 34 = .ok (.aload_n 0, 1) := by decide +kernel
theorem dX3_match_35 : decode cX3_match 35 = .ok (.getfield 15, 3) := by decide +kernel
theorem dX3_match_38 : decode cX3_match 38 = .ok (.iconst 1, 1) := by decide +kernel
theorem dX3_match_39 : decode cX3_match 39 = .ok (.invokevirtual 48, 3) := by decide +kernel
theorem dX3_match_42 : decode cX3_match 42 = .ok (.aload_n 0, 1) := by decide +kernel
theorem dX3_match_43 : decode cX3_match 43 = .ok (.getfield 15, 3) := by decide +kernel
theorem dX3_match_46 : decode cX3_match 46 = .ok (.bipush 9, 2) := by decide +kernel
theorem dX3_match_48 : decode cX3_match 48 = .ok (.invokevirtual 67, 3) := by decide +kernel
theorem dX3_match_51 : decode cX3_match 51 = .ok (.pop, 1) := by decide +kernel
theorem dX3_match_52 : decode cX3_match 52 = .ok (.aload_n 0, 1) := by decide +kernel
theorem dX3_match_53 : decode cX3_match 53 = .ok (.iload_n 1, 1) := by decide +kernel
theorem dX3_match_54 : decode cX3_match 54 = .ok (.invokevirtual 118, 3) := by decide +kernel
theorem dX3_match_57 : decode cX3_match 57 = .ok (.istore_n 3, 1) := by decide +kernel
theorem dX3_match_58 : decode cX3_match 58 = .ok (.iload_n 2, 1) := by decide +kernel
theorem dX3_match_59 : decode cX3_match 59 = .ok (.ifCond .eq 11, 3) := by decide +kernel
theorem dX3_match_62 : decode cX3_match 62 = .ok (.iload_n 3, 1) := by decide +kernel
theorem dX3_match_63 : decode cX3_match 63 = .ok (.ifCond .ne 7, 3) := by decide +kernel
theorem dX3_match_66 : decode cX3_match 66 = .ok (.aload_n 0, 1) := by decide +kernel
theorem dX3_match_67 : decode cX3_match 67 = .ok (.invokevirtual 42, 3) := by decide +kernel
theorem dX3_match_70 : decode cX3_match 70 = .ok (.aload_n 0, 1) := by decide +kernel
theorem dX3_match_71 : decode cX3_match 71 = .ok (.bipush 123, 2) := by decide +kernel
theorem dX3_match_73 : decode cX3_match 73 = .ok (.iload_n 1, 1) := by decide +kernel
theorem dX3_match_74 : decode cX3_match 74 = .ok (.invokevirtual 102, 3) := by decide +kernel
theorem dX3_match_77 : decode cX3_match 77 = .ok (.ifCond .ne 4, 3) := by decide +kernel
theorem dX3_match_80 : decode cX3_match 80 = .ok (.return_, 1) := by decide +kernel
theorem dX3_match_81 : decode cX3_match 81 = .ok (.iconst 0, 1) := by decide +kernel
theorem dX3_match_82 : decode cX3_match 82 = .ok (.istore 4, 2) := by decide +kernel
theorem dX3_match_84 : decode cX3_match 84 = .ok (.iload 4, 2) := by decide +kernel
theorem dX3_match_86 : decode cX3_match 86 = .ok (.sipush 3002, 3) := by decide +kernel
theorem dX3_match_89 : decode cX3_match 89 = .ok (.if_icmp .ge 27, 3) := by decide +kernel
theorem dX3_match_92 : decode cX3_match 92 = .ok (.aload_n 0, 1) := by decide +kernel
theorem dX3_match_93 : decode cX3_match 93 = .ok (.getfield 15, 3) := by decide +kernel
theorem dX3_match_96 : decode cX3_match 96 = .ok (.iconst 2, 1) := by decide +kernel
theorem dX3_match_97 : decode cX3_match 97 = .ok (.invokevirtual 67, 3) := by decide +kernel
theorem dX3_match_100 : decode cX3_match 100 = .ok (.ifCond .eq 16, 3) := by decide +kernel
theorem dX3_match_103 : decode cX3_match 103 = .ok (.aload_n 0, 1) := by decide +kernel
theorem dX3_match_104 : decode cX3_match 104 = .ok (.iload_n 1, 1) := by decide +kernel
theorem dX3_match_105 : decode cX3_match 105 = .ok (.iconst 1, 1) := by decide +kernel
theorem dX3_match_106 : decode cX3_match 106 = .ok (.iadd, 1) := by decide +kernel
theorem dX3_match_107 : decode cX3_match 107 = .ok (.invokevirtual 130, 3) := by decide +kernel
theorem dX3_match_110 : decode cX3_match 110 = .ok (.iinc 4 1, 3) := by decide +kernel
theorem dX3_match_113 : decode cX3_match 113 = .ok (.goto (-29), 3) := by decide +kernel
theorem dX3_match_116 : decode cX3_match 116 = .ok (.aload_n 0, 1) := by decide +kernel
theorem dX3_match_117 : decode cX3_match 117 = .ok (.getfield 15, 3) := by decide +kernel
theorem dX3_match_120 : decode cX3_match 120 = .ok (.bipush 125, 2) := by decide +kernel
theorem dX3_match_122 : decode cX3_match 122 = .ok (.invokevirtual 51, 3) := by decide +kernel
theorem dX3_match_125 : decode cX3_match 125 = .ok (.return_, 1) := by decide +kernel
theorem dX3_named_0 : decode cX3_named 0 = .ok (.aload_n 0, 1) := by decide +kernel
theorem dX3_named_1 : decode cX3_named 1 = .ok (.getfield 15, 3) := by decide +kernel
theorem dX3_named_4 : decode cX3_named 4 = .ok (.iconst 1, 1) := by decide +kernel
theorem dX3_named_5 : decode cX3_named 5 = .ok (.invokevirtual 48, 3) := by decide +kernel
theorem dX3_named_8 : decode cX3_named 8 = .ok (.aload_n 0, 1) := by decide +kernel
theorem dX3_named_9 : decode cX3_named 9 = .ok (.getfield 15, 3) := by decide +kernel
theorem dX3_named_12 : decode cX3_named 12 = .ok (.sipush 134, 3) := by decide +kernel
theorem dX3_named_15 : decode cX3_named 15 = .ok (.invokevirtual 67, 3) := by decide +kernel
theorem dX3_named_18 : decode cX3_named 18 = .ok (.ifCond .eq 31, 3) := by decide +kernel
theorem dX3_named_21 : decode cX3_named 21 = .ok (.aload_n 0, 1) := by decide +kernel
theorem dX3_named_22 : decode cX3_named 22 = .ok (.getfield 15, 3) := by decide +kernel
theorem dX3_named_25 : decode cX3_named 25 = .ok (.iconst 2, 1) := by decide +kernel
theorem dX3_named_26 : decode cX3_named 26 = .ok (.invokevirtual 51, 3) := by decide +kernel
theorem dX3_named_29 : decode cX3_named 29 = .ok (.aload_n 0, 1) := by decide +kernel
theorem dX3_named_30 : decode cX3_named 30 = .ok (.getfield 15, 3) := by decide +kernel
theorem dX3_named_33 : decode cX3_named 33 = .ok (.invokevirtual 29, 3) := by decide +kernel
theorem dX3_named_36 : decode cX3_named 36 = .ok (.bipush 40, 2) := by decide +kernel
theorem dX3_named_38 : decode cX3_named 38 = .ok (.if_icmp .ne 9, 3) := by decide +kernel
theorem dX3_named_41 : decode cX3_named 41 = .ok (.aload_n 0, 1) := by decide +kernel
theorem dX3_named_42 : decode cX3_named 42 = .ok (.iload_n 1, 1) := by decide +kernel
theorem dX3_named_43 : decode cX3_named 43 = .ok (.iconst 1, 1) := by decide +kernel
theorem dX3_named_44 : decode cX3_named 44 = .ok (.invokevirtual 158, 3) := by decide +kernel
theorem dX3_named_47 : decode cX3_named 47 = .ok (.iconst 0, 1) := by decide +kernel
theorem dX3_named_48 : decode cX3_named 48 = .ok (.ireturn, 1) := by decide +kernel
theorem dX3_named_49 : decode cX3_named 49 = .ok (.aload_n 0, 1) := by decide +kernel
theorem dX3_named_50 : decode cX3_named 50 = .ok (.getfield 15, 3) := by decide +kernel
theorem dX3_named_53 : decode cX3_named 53 = .ok (.invokevirtual 29, 3) := by decide +kernel
theorem dX3_named_56 : decode cX3_named 56 = .ok (.bipush 40, 2) := by decide +kernel
theorem dX3_named_58 : decode cX3_named 58 = .ok (.if_icmp .ne 11, 3) := by decide +kernel
theorem dX3_named_61 : decode cX3_named 61 = .ok (.aload_n 0, 1) := by decide +kernel
theorem dX3_named_62 : decode cX3_named 62 = .ok (.iload_n 1, 1) := by decide +kernel
theorem dX3_named_63 : decode cX3_named 63 = .ok (.iconst 0, 1) := by decide +kernel
theorem dX3_named_64 : decode cX3_named 64 = .ok (.invokevirtual 158, 3) := by decide +kernel
theorem dX3_named_67 : decode cX3_named 67 = .ok (.iconst 0, 1) := by decide +kernel
theorem dX3_named_68 : decode cX3_named 68 = .ok (.ireturn, 1) := by decide +kernel
theorem dX3_named_69 : decode cX3_named 69 = .ok (.iconst 1, 1) := by decide +kernel
theorem dX3_named_70 : decode cX3_named 70 = .ok (.ireturn, 1) := by decide +kernel
theorem dX3_noteItem_0 : decode cX3_noteItem 0 = .ok (.aload_n 0, 1) := by decide +kernel
theorem dX3_noteItem_1 : decode cX3_noteItem 1 = .ok (.getfield 9, 3) := by decide +kernel
theorem dX3_noteItem_4 : decode cX3_noteItem 4 = .ok (.aload_n 0, 1) := by decide +kernel
theorem dX3_noteItem_5 : decode cX3_noteItem 5 = .ok (.getfield 19, 3) := by decide +kernel
theorem dX3_noteItem_8 : decode cX3_noteItem 8 = .ok (.aload_n 0, 1) := by decide +kernel
theorem dX3_noteItem_9 : decode cX3_noteItem 9 = .ok (.getfield 15, 3) := by decide +kernel
theorem dX3_noteItem_12 : decode cX3_noteItem 12 = .ok (.getfield 45, 3) := by decide +kernel
theorem dX3_noteItem_15 : decode cX3_noteItem 15 = .ok (.iastore, 1) := by decide +kernel
theorem dX3_noteItem_16 : decode cX3_noteItem 16 = .ok (.aload_n 0, 1) := by decide +kernel
theorem dX3_noteItem_17 : decode cX3_noteItem 17 = .ok (.dup, 1) := by decide +kernel
theorem dX3_noteItem_18 : decode cX3_noteItem 18 = .ok (.getfield 19, 3) := by decide +kernel
theorem dX3_noteItem_21 : decode cX3_noteItem 21 = .ok (.iconst 1, 1) := by decide +kernel
theorem dX3_noteItem_22 : decode cX3_noteItem 22 = .ok (.iadd, 1) := by decide +kernel
theorem dX3_noteItem_23 : decode cX3_noteItem 23 = .ok (.putfield 19, 3) := by decide +kernel
theorem dX3_noteItem_26 : decode cX3_noteItem 26 = .ok (.aload_n 0, 1) := by decide +kernel
theorem dX3_noteItem_27 : decode cX3_noteItem 27 = .ok (.getfield 15, 3) := by decide +kernel
theorem dX3_noteItem_30 : decode cX3_noteItem 30 = .ok (.iconst 1, 1) := by decide +kernel
theorem dX3_noteItem_31 : decode cX3_noteItem 31 = .ok (.invokevirtual 48, 3) := by decide +kernel
theorem dX3_noteItem_34 : decode cX3_noteItem 34 = .ok (.aload_n 0, 1) := by decide +kernel
theorem dX3_noteItem_35 : decode cX3_noteItem 35 = .ok (.getfield 15, 3) := by decide +kernel
theorem dX3_noteItem_38 : decode cX3_noteItem 38 = .ok (.iconst 2, 1) := by decide +kernel
theorem dX3_noteItem_39 : decode cX3_noteItem 39 = .ok (.invokevirtual 51, 3) := by decide +kernel
theorem dX3_noteItem_42 : decode cX3_noteItem 42 = .ok (.return_, 1) := by decide +kernel
theorem dX3_open_0 : decode cX3_open 0 = .ok (.aload_n 0, 1) := by decide +kernel
theorem dX3_open_1 : decode cX3_open 1 = .ok (.getfield 15, 3) := by decide +kernel
theorem dX3_open_4 : decode cX3_open 4 = .ok (.invokevirtual 29, 3) := by decide +kernel
theorem dX3_open_7 : decode cX3_open 7 = .ok (.iload_n 1, 1) := by decide +kernel
theorem dX3_open_8 : decode cX3_open 8 = .ok (.if_icmp .eq 9, 3) := by decide +kernel
theorem dX3_open_11 : decode cX3_open 11 = .ok (.aload_n 0, 1) := by decide +kernel
theorem dX3_open_12 : decode cX3_open 12 = .ok (.invokevirtual 42, 3) := by decide +kernel
theorem dX3_open_15 : decode cX3_open 15 = .ok (.iconst 0, 1) := by decide +kernel
theorem dX3_open_16 : decode cX3_open 16 = .ok (.ireturn, 1) := by decide +kernel
theorem dX3_open_17 : decode cX3_open 17 = .ok (.iload_n 2, 1) := by decide +kernel
theorem dX3_open_18 : decode cX3_open 18 = .ok (.bipush 16, 2) := by decide +kernel
theorem dX3_open_20 : decode cX3_open 20 = .ok (.if_icmp .ne 9, 3) := by decide +kernel
theorem dX3_open_23 : decode cX3_open 23 = .ok (.aload_n 0, 1) := by decide +kernel
theorem dX3_open_24 : decode cX3_open 24 = .ok (.invokevirtual 61, 3) := by decide +kernel
theorem dX3_open_27 : decode cX3_open 27 = .ok (.iconst 0, 1) := by decide +kernel
theorem dX3_open_28 : decode cX3_open 28 = .ok (.ireturn, 1) := by decide +kernel
theorem dX3_open_29 : decode cX3_open 29 = .ok (.aload_n 0, 1) := by decide +kernel
theorem dX3_open_30 : decode cX3_open 30 = .ok (.getfield 15, 3) := by decide +kernel
theorem dX3_open_33 : decode cX3_open 33 = .ok (.iconst 1, 1) := by decide +kernel
theorem dX3_open_34 : decode cX3_open 34 = .ok (.invokevirtual 48, 3) := by decide +kernel
theorem dX3_open_37 : decode cX3_open 37 = .ok (.iconst 1, 1) := by decide +kernel
theorem dX3_open_38 : decode cX3_open 38 = .ok (.ireturn, 1) := by decide +kernel
theorem dX3_parameters_0 : decode cX3_parameters 0 = .ok (.iconst 0, 1) := by decide +kernel
theorem dX3_parameters_1 : decode cX3_parameters 1 = .ok (.istore_n 1, 1) := by decide +kernel
theorem dX3_parameters_2 : decode cX3_parameters 2 = .ok (.iload_n 1, 1) := by decide +kernel
theorem dX3_parameters_3 : decode cX3_parameters 3 = .ok (.sipush 3002, 3) := by decide +kernel
theorem dX3_parameters_6 : decode cX3_parameters 6 = .ok (.if_icmp .ge 44, 3) := by decide +kernel
theorem dX3_parameters_9 : decode cX3_parameters 9 = .ok (.iload_n 1, 1) := by decide +kernel
theorem dX3_parameters_10 : decode cX3_parameters 10 = .ok (.ifCond .eq 15, 3) := by decide +kernel
theorem dX3_parameters_13 : decode cX3_parameters 13 = .ok (.aload_n 0, 1) := by decide +kernel
theorem dX3_parameters_14 : decode cX3_parameters 14 = .ok (.getfield 15, 3) := by decide +kernel
theorem dX3_parameters_17 : decode cX3_parameters 17 = .ok (.bipush 44, 2) := by decide +kernel
theorem dX3_parameters_19 : decode cX3_parameters 19 = .ok (.invokevirtual 67, 3) := by decide +kernel
theorem dX3_parameters_22 : decode cX3_parameters 22 = .ok (.ifCond .eq 28, 3) := by decide +kernel
theorem dX3_parameters_25 : decode cX3_parameters 25 = .ok (.aload_n 0, 1) := by decide +kernel
theorem dX3_parameters_26 : decode cX3_parameters 26 = .ok (.iload_n 1, 1) := by decide +kernel
theorem dX3_parameters_27 : decode cX3_parameters 27 = .ok (.invokevirtual 99, 3) := by decide +kernel
theorem dX3_parameters_30 : decode cX3_parameters 30 = .ok (.aload_n 0, 1) := by decide +kernel
theorem dX3_parameters_31 : decode cX3_parameters 31 = .ok (.getfield 15, 3) := by decide +kernel
theorem dX3_parameters_34 : decode cX3_parameters 34 = .ok (.bipush 58, 2) := by decide +kernel
theorem dX3_parameters_36 : decode cX3_parameters 36 = .ok (.invokevirtual 51, 3) := by decide +kernel
theorem dX3_parameters_39 : decode cX3_parameters 39 = .ok (.aload_n 0, 1) := by decide +kernel
theorem dX3_parameters_40 : decode cX3_parameters 40 = .ok (.iconst 0, 1) := by decide +kernel
theorem dX3_parameters_41 : decode cX3_parameters 41 = .ok (.invokevirtual 74, 3) := by decide +kernel
theorem dX3_parameters_44 : decode cX3_parameters 44 = .ok (.iinc 1 1, 3) := by decide +kernel
theorem dX3_parameters_47 : decode cX3_parameters 47 = .ok (.goto (-45), 3) := by decide +kernel
theorem dX3_parameters_50 : decode cX3_parameters 50 = .ok (.aload_n 0, 1) := by decide +kernel
theorem dX3_parameters_51 : decode cX3_parameters 51 = .ok (.getfield 15, 3) := by decide +kernel
theorem dX3_parameters_54 : decode cX3_parameters 54 = .ok (.bipush 41, 2) := by decide +kernel
theorem dX3_parameters_56 : decode cX3_parameters 56 = .ok (.invokevirtual 51, 3) := by decide +kernel
theorem dX3_parameters_59 : decode cX3_parameters 59 = .ok (.return_, 1) := by decide +kernel
theorem dX3_primary_0 : decode cX3_primary 0 = .ok (.aload_n 0, 1) := by decide +kernel
theorem dX3_primary_1 : decode cX3_primary 1 = .ok (.getfield 15, 3) := by decide +kernel
theorem dX3_primary_4 : decode cX3_primary 4 = .ok (.invokevirtual 29, 3) := by decide +kernel
theorem dX3_primary_7 : decode cX3_primary 7 = .ok (.lookupswitch 118 #[(2, 83), (4, 73), (16, 73), (17, 73), (18, 73), (20, 111), (21, 95), (40, 89)], 73) := by decide +kernel
theorem dX3_primary_80 : decode cX3_primary 80 = .ok (.aload_n 0, 1) := by decide +kernel
theorem dX3_primary_81 : decode cX3_primary 81 = .ok (.getfield 15, 3) := by decide +kernel
theorem dX3_primary_84 : decode cX3_primary 84 = .ok (.iconst 1, 1) := by decide +kernel
theorem dX3_primary_85 : decode cX3_primary 85 = .ok (.invokevirtual 48, 3) := by decide +kernel
theorem dX3_primary_88 : decode cX3_primary 88 = .ok (.iconst 0, 1) := by decide +kernel
theorem dX3_primary_89 : decode cX3_primary 89 = .ok (.ireturn, 1) := by decide +kernel
theorem dX3_primary_90 : decode cX3_primary 90 = .ok (.aload_n 0, 1) := by decide +kernel
theorem dX3_primary_91 : decode cX3_primary 91 = .ok (.iload_n 1, 1) := by decide +kernel
theorem dX3_primary_92 : decode cX3_primary 92 = .ok (.invokevirtual 149, 3) := by decide +kernel
theorem dX3_primary_95 : decode cX3_primary 95 = .ok (.ireturn, 1) := by decide +kernel
theorem dX3_primary_96 : decode cX3_primary 96 = .ok (.aload_n 0, 1) := by decide +kernel
theorem dX3_primary_97 : decode cX3_primary 97 = .ok (.iload_n 1, 1) := by decide +kernel
theorem dX3_primary_98 : decode cX3_primary 98 = .ok (.invokevirtual 152, 3) := by decide +kernel
theorem dX3_primary_101 : decode cX3_primary 101 = .ok (.ireturn, 1) := by decide +kernel
theorem dX3_primary_102 : decode cX3_primary 102 = .ok (.aload_n 0, 1) := by decide +kernel
theorem dX3_primary_103 : decode cX3_primary 103 = .ok (.getfield 15, 3) := by decide +kernel
theorem dX3_primary_106 : decode cX3_primary 106 = .ok (.iconst 1, 1) := by decide +kernel
theorem dX3_primary_107 : decode cX3_primary 107 = .ok (.invokevirtual 48, 3) := by decide +kernel
theorem dX3_primary_110 : decode cX3_primary 110 = .ok (.aload_n 0, 1) := by decide +kernel
theorem dX3_primary_111 : decode cX3_primary 111 = .ok (.iload_n 1, 1) := by decide +kernel
theorem dX3_primary_112 : decode cX3_primary 112 = .ok (.invokevirtual 152, 3) := by decide +kernel
theorem dX3_primary_115 : decode cX3_primary 115 = .ok (.pop, 1) := by decide +kernel
theorem dX3_primary_116 : decode cX3_primary 116 = .ok (.iconst 0, 1) := by decide +kernel
theorem dX3_primary_117 : decode cX3_primary 117 = .ok (.ireturn, 1) := by decide +kernel
theorem dX3_primary_118 : decode cX3_primary 118 = .ok (.aload_n 0, 1) := by decide +kernel
theorem dX3_primary_119 : decode cX3_primary 119 = .ok (.iload_n 1, 1) := by decide +kernel
theorem dX3_primary_120 : decode cX3_primary 120 = .ok (.invokevirtual 155, 3) := by decide +kernel
theorem dX3_primary_123 : decode cX3_primary 123 = .ok (.iconst 0, 1) := by decide +kernel
theorem dX3_primary_124 : decode cX3_primary 124 = .ok (.ireturn, 1) := by decide +kernel
theorem dX3_primary_125 : decode cX3_primary 125 = .ok (.aload_n 0, 1) := by decide +kernel
theorem dX3_primary_126 : decode cX3_primary 126 = .ok (.invokevirtual 42, 3) := by decide +kernel
theorem dX3_primary_129 : decode cX3_primary 129 = .ok (.iconst 0, 1) := by decide +kernel
theorem dX3_primary_130 : decode cX3_primary 130 = .ok (.ireturn, 1) := by decide +kernel
theorem dX3_program_0 : decode cX3_program 0 = .ok (.aload_n 0, 1) := by decide +kernel
theorem dX3_program_1 : decode cX3_program 1 = .ok (.iconst 0, 1) := by decide +kernel
theorem dX3_program_2 : decode cX3_program 2 = .ok (.putfield 19, 3) := by decide +kernel
theorem dX3_program_5 : decode cX3_program 5 = .ok (.aload_n 0, 1) := by decide +kernel
theorem dX3_program_6 : decode cX3_program 6 = .ok (.iconst 0, 1) := by decide +kernel
theorem dX3_program_7 : decode cX3_program 7 = .ok (.putfield 23, 3) := by decide +kernel
theorem dX3_program_10 : decode cX3_program 10 = .ok (.aload_n 0, 1) := by decide +kernel
theorem dX3_program_11 : decode cX3_program 11 = .ok (.iconst 0, 1) := by decide +kernel
theorem dX3_program_12 : decode cX3_program 12 = .ok (.putfield 26, 3) := by decide +kernel
theorem dX3_program_15 : decode cX3_program 15 = .ok (.iconst 0, 1) := by decide +kernel
theorem dX3_program_16 : decode cX3_program 16 = .ok (.istore_n 1, 1) := by decide +kernel
theorem dX3_program_17 : decode cX3_program 17 = .ok (.iload_n 1, 1) := by decide +kernel
theorem dX3_program_18 : decode cX3_program 18 = .ok (.sipush 3002, 3) := by decide +kernel
theorem dX3_program_21 : decode cX3_program 21 = .ok (.if_icmp .ge 63, 3) := by decide +kernel
theorem dX3_program_24 : decode cX3_program 24 = .ok (.aload_n 0, 1) := by decide +kernel
theorem dX3_program_25 : decode cX3_program 25 = .ok (.getfield 15, 3) := by decide +kernel
theorem dX3_program_28 : decode cX3_program 28 = .ok (.invokevirtual 29, 3) := by decide +kernel
theorem dX3_program_31 : decode cX3_program 31 = .ok (.ifCond .eq 53, 3) := by decide +kernel
theorem dX3_program_34 : decode cX3_program 34 = .ok (.aload_n 0, 1) := by decide +kernel
theorem dX3_program_35 : decode cX3_program 35 = .ok (.getfield 15, 3) := by decide +kernel
theorem dX3_program_38 : decode cX3_program 38 = .ok (.invokevirtual 29, 3) := by decide +kernel
theorem dX3_program_41 : decode cX3_program 41 = .ok (.istore_n 2, 1) := by decide +kernel
theorem dX3_program_42 : decode cX3_program 42 = .ok (.iload_n 2, 1) := by decide +kernel
theorem dX3_program_43 : decode cX3_program 43 = .ok (.bipush 7, 2) := by decide +kernel
theorem dX3_program_45 : decode cX3_program 45 = .ok (.if_icmp .ne 10, 3) := by decide +kernel
theorem dX3_program_48 : decode cX3_program 48 = .ok (.aload_n 0, 1) := by decide +kernel
theorem dX3_program_49 : decode cX3_program 49 = .ok (.invokevirtual 35, 3) := by decide +kernel
theorem dX3_program_52 : decode cX3_program 52 = .ok (.goto 26, 3) := by decide +kernel
theorem dX3_program_55 : decode cX3_program 55 = .ok (.iload_n 2, 1) := by decide +kernel
theorem dX3_program_56 : decode cX3_program 56 = .ok (.iconst 5, 1) := by decide +kernel
theorem dX3_program_57 : decode cX3_program 57 = .ok (.if_icmp .eq 9, 3) := by decide +kernel
theorem dX3_program_60 : decode cX3_program 60 = .ok (.iload_n 2, 1) := by decide +kernel
theorem dX3_program_61 : decode cX3_program 61 = .ok (.bipush 6, 2) := by decide +kernel
theorem dX3_program_63 : decode cX3_program 63 = .ok (.if_icmp .ne 11, 3) := by decide +kernel
theorem dX3_program_66 : decode cX3_program 66 = .ok (.aload_n 0, 1) := by decide +kernel
theorem dX3_program_67 : decode cX3_program 67 = .ok (.iload_n 2, 1) := by decide +kernel
theorem dX3_program_68 : decode cX3_program 68 = .ok (.invokevirtual 38, 3) := by decide +kernel
theorem dX3_program_71 : decode cX3_program 71 = .ok (.goto 7, 3) := by decide +kernel
theorem dX3_program_74 : decode cX3_program 74 = .ok (.aload_n 0, 1) := by decide +kernel
theorem dX3_program_75 : decode cX3_program 75 = .ok (.invokevirtual 42, 3) := by decide +kernel
theorem dX3_program_78 : decode cX3_program 78 = .ok (.iinc 1 1, 3) := by decide +kernel
theorem dX3_program_81 : decode cX3_program 81 = .ok (.goto (-64), 3) := by decide +kernel
theorem dX3_program_84 : decode cX3_program 84 = .ok (.return_, 1) := by decide +kernel
theorem dX3_shape_0 : decode cX3_shape 0 = .ok (.aload_n 0, 1) := by decide +kernel
theorem dX3_shape_1 : decode cX3_shape 1 = .ok (.getfield 23, 3) := by decide +kernel
theorem dX3_shape_4 : decode cX3_shape 4 = .ok (.bipush 30, 2) := by decide +kernel
theorem dX3_shape_6 : decode cX3_shape 6 = .ok (.if_icmp .ne 8, 3) := by decide +kernel
theorem dX3_shape_9 : decode cX3_shape 9 = .ok (.aload_n 0, 1) := by decide +kernel
theorem dX3_shape_10 : decode cX3_shape 10 = .ok (.invokevirtual 61, 3) := by decide +kernel
theorem dX3_shape_13 : decode cX3_shape 13 = .ok (.return_, 1) := by decide +kernel
theorem dX3_shape_14 : decode cX3_shape 14 = .ok (.aload_n 0, 1) := by decide +kernel
theorem dX3_shape_15 : decode cX3_shape 15 = .ok (.dup, 1) := by decide +kernel
theorem dX3_shape_16 : decode cX3_shape 16 = .ok (.getfield 23, 3) := by decide +kernel
theorem dX3_shape_19 : decode cX3_shape 19 = .ok (.iconst 1, 1) := by decide +kernel
theorem dX3_shape_20 : decode cX3_shape 20 = .ok (.iadd, 1) := by decide +kernel
theorem dX3_shape_21 : decode cX3_shape 21 = .ok (.putfield 23, 3) := by decide +kernel
theorem dX3_shape_24 : decode cX3_shape 24 = .ok (.aload_n 0, 1) := by decide +kernel
theorem dX3_shape_25 : decode cX3_shape 25 = .ok (.invokevirtual 64, 3) := by decide +kernel
theorem dX3_shape_28 : decode cX3_shape 28 = .ok (.aload_n 0, 1) := by decide +kernel
theorem dX3_shape_29 : decode cX3_shape 29 = .ok (.getfield 15, 3) := by decide +kernel
theorem dX3_shape_32 : decode cX3_shape 32 = .ok (.bipush 123, 2) := by decide +kernel
theorem dX3_shape_34 : decode cX3_shape 34 = .ok (.invokevirtual 51, 3) := by decide +kernel
theorem dX3_shape_37 : decode cX3_shape 37 = .ok (.iconst 0, 1) := by decide +kernel
theorem dX3_shape_38 : decode cX3_shape 38 = .ok (.istore_n 2, 1) := by decide +kernel
theorem dX3_shape_39 : decode cX3_shape 39 = .ok (.iload_n 2, 1) := by decide +kernel
theorem dX3_shape_40 : decode cX3_shape 40 = .ok (.sipush 3002, 3) := by decide +kernel
theorem dX3_shape_43 : decode cX3_shape 43 = .ok (.if_icmp .ge 81, 3) := by decide +kernel
theorem dX3_shape_46 : decode cX3_shape 46 = .ok (.iload_n 2, 1) := by decide +kernel
theorem dX3_shape_47 : decode cX3_shape 47 = .ok (.ifCond .eq 15, 3) := by decide +kernel
theorem dX3_shape_50 : decode cX3_shape 50 = .ok (.aload_n 0, 1) := by decide +kernel
theorem dX3_shape_51 : decode cX3_shape 51 = .ok (.getfield 15, 3) := by decide +kernel
theorem dX3_shape_54 : decode cX3_shape 54 = .ok (.bipush 44, 2) := by decide +kernel
theorem dX3_shape_56 : decode cX3_shape 56 = .ok (.invokevirtual 67, 3) := by decide +kernel
theorem dX3_shape_59 : decode cX3_shape 59 = .ok (.ifCond .eq 65, 3) := by decide +kernel
theorem dX3_shape_62 : decode cX3_shape 62 = .ok (.aload_n 0, 1) := by decide +kernel
theorem dX3_shape_63 : decode cX3_shape 63 = .ok (.getfield 15, 3) := by decide +kernel
theorem dX3_shape_66 : decode cX3_shape 66 = .ok (.invokevirtual 29, 3) := by decide +kernel
theorem dX3_shape_69 : decode cX3_shape 69 = .ok (.iconst 2, 1) := by decide +kernel
theorem dX3_shape_70 : decode cX3_shape 70 = .ok (.if_icmp .ne 13, 3) := by decide +kernel
theorem dX3_shape_73 : decode cX3_shape 73 = .ok (.iload_n 2, 1) := by decide +kernel
theorem dX3_shape_74 : decode cX3_shape 74 = .ok (.bipush 12, 2) := by decide +kernel
theorem dX3_shape_76 : decode cX3_shape 76 = .ok (.if_icmp .ne 7, 3) := by decide +kernel
theorem dX3_shape_79 : decode cX3_shape 79 = .ok (.aload_n 0, 1) := by decide +kernel
theorem dX3_shape_80 : decode cX3_shape 80 = .ok (.invokevirtual 61, 3) := by decide +kernel
theorem dX3_shape_83 : decode cX3_shape 83 = .ok (.aload_n 0, 1) := by decide +kernel
theorem dX3_shape_84 : decode cX3_shape 84 = .ok (.getfield 15, 3) := by decide +kernel
theorem dX3_shape_87 : decode cX3_shape 87 = .ok (.iconst 2, 1) := by decide +kernel
theorem dX3_shape_88 : decode cX3_shape 88 = .ok (.invokevirtual 51, 3) := by decide +kernel
theorem dX3_shape_91 : decode cX3_shape 91 = .ok (.iload_n 1, 1) := by decide +kernel
theorem dX3_shape_92 : decode cX3_shape 92 = .ok (.bipush 6, 2) := by decide +kernel
theorem dX3_shape_94 : decode cX3_shape 94 = .ok (.if_icmp .ne 10, 3) := by decide +kernel
theorem dX3_shape_97 : decode cX3_shape 97 = .ok (.aload_n 0, 1) := by decide +kernel
theorem dX3_shape_98 : decode cX3_shape 98 = .ok (.invokevirtual 71, 3) := by decide +kernel
theorem dX3_shape_101 : decode cX3_shape 101 = .ok (.goto 17, 3) := by decide +kernel
theorem dX3_shape_104 : decode cX3_shape 104 = .ok (.aload_n 0, 1) := by decide +kernel
theorem dX3_shape_105 : decode cX3_shape 105 = .ok (.getfield 15, 3) := by decide +kernel
theorem dX3_shape_108 : decode cX3_shape 108 = .ok (.bipush 58, 2) := by decide +kernel
theorem dX3_shape_110 : decode cX3_shape 110 = .ok (.invokevirtual 51, 3) := by decide +kernel
theorem dX3_shape_113 : decode cX3_shape 113 = .ok (.aload_n 0, 1) := by decide +kernel
theorem dX3_shape_114 : decode cX3_shape 114 = .ok (.iconst 0, 1) := by decide +kernel
theorem dX3_shape_115 : decode cX3_shape 115 = .ok (.invokevirtual 74, 3) := by decide +kernel
theorem dX3_shape_118 : decode cX3_shape 118 = .ok (.iinc 2 1, 3) := by decide +kernel
theorem dX3_shape_121 : decode cX3_shape 121 = .ok (.goto (-82), 3) := by decide +kernel
theorem dX3_shape_124 : decode cX3_shape 124 = .ok (.aload_n 0, 1) := by decide +kernel
theorem dX3_shape_125 : decode cX3_shape 125 = .ok (.getfield 15, 3) := by decide +kernel
theorem dX3_shape_128 : decode cX3_shape 128 = .ok (.bipush 125, 2) := by decide +kernel
theorem dX3_shape_130 : decode cX3_shape 130 = .ok (.invokevirtual 51, 3) := by decide +kernel
theorem dX3_shape_133 : decode cX3_shape 133 = .ok (.return_, 1) := by decide +kernel
theorem dX3_startsType_0 : decode cX3_startsType 0 = .ok (.aload_n 0, 1) := by decide +kernel
theorem dX3_startsType_1 : decode cX3_startsType 1 = .ok (.getfield 15, 3) := by decide +kernel
theorem dX3_startsType_4 : decode cX3_startsType 4 = .ok (.invokevirtual 29, 3) := by decide +kernel
theorem dX3_startsType_7 : decode cX3_startsType 7 = .ok (.istore_n 1, 1) := by decide +kernel
theorem dX3_startsType_8 : decode cX3_startsType 8 = .ok (.iload_n 1, 1) := by decide +kernel
theorem dX3_startsType_9 : decode cX3_startsType 9 = .ok (.invokestatic 81, 3) := by decide +kernel
theorem dX3_startsType_12 : decode cX3_startsType 12 = .ok (.ifCond .ne 15, 3) := by decide +kernel
theorem dX3_startsType_15 : decode cX3_startsType 15 = .ok (.iload_n 1, 1) := by decide +kernel
theorem dX3_startsType_16 : decode cX3_startsType 16 = .ok (.bipush 19, 2) := by decide +kernel
theorem dX3_startsType_18 : decode cX3_startsType 18 = .ok (.if_icmp .eq 9, 3) := by decide +kernel
theorem dX3_startsType_21 : decode cX3_startsType 21 = .ok (.iload_n 1, 1) := by decide +kernel
theorem dX3_startsType_22 : decode cX3_startsType 22 = .ok (.bipush 38, 2) := by decide +kernel
theorem dX3_startsType_24 : decode cX3_startsType 24 = .ok (.if_icmp .ne 7, 3) := by decide +kernel
theorem dX3_startsType_27 : decode cX3_startsType 27 = .ok (.iconst 1, 1) := by decide +kernel
theorem dX3_startsType_28 : decode cX3_startsType 28 = .ok (.goto 4, 3) := by decide +kernel
theorem dX3_startsType_31 : decode cX3_startsType 31 = .ok (.iconst 0, 1) := by decide +kernel
theorem dX3_startsType_32 : decode cX3_startsType 32 = .ok (.ireturn, 1) := by decide +kernel
theorem dX3_statement_0 : decode cX3_statement 0 = .ok (.aload_n 0, 1) := by decide +kernel
theorem dX3_statement_1 : decode cX3_statement 1 = .ok (.getfield 15, 3) := by decide +kernel
theorem dX3_statement_4 : decode cX3_statement 4 = .ok (.invokevirtual 29, 3) := by decide +kernel
theorem dX3_statement_7 : decode cX3_statement 7 = .ok (.lookupswitch 183 #[(8, 65), (10, 73), (12, 97), (13, 81), (14, 119), (15, 157), (123, 89)], 65) := by decide +kernel
theorem dX3_statement_72 : decode cX3_statement 72 = .ok (.aload_n 0, 1) := by decide +kernel
theorem dX3_statement_73 : decode cX3_statement 73 = .ok (.iload_n 1, 1) := by decide +kernel
theorem dX3_statement_74 : decode cX3_statement 74 = .ok (.invokevirtual 109, 3) := by decide +kernel
theorem dX3_statement_77 : decode cX3_statement 77 = .ok (.goto 118, 3) := by decide +kernel
theorem dX3_statement_80 : decode cX3_statement 80 = .ok (.aload_n 0, 1) := by decide +kernel
theorem dX3_statement_81 : decode cX3_statement 81 = .ok (.iload_n 1, 1) := by decide +kernel
theorem dX3_statement_82 : decode cX3_statement 82 = .ok (.invokevirtual 112, 3) := by decide +kernel
theorem dX3_statement_85 : decode cX3_statement 85 = .ok (.goto 110, 3) := by decide +kernel
theorem dX3_statement_88 : decode cX3_statement 88 = .ok (.aload_n 0, 1) := by decide +kernel
theorem dX3_statement_89 : decode cX3_statement 89 = .ok (.iload_n 1, 1) := by decide +kernel
theorem dX3_statement_90 : decode cX3_statement 90 = .ok (.invokevirtual 115, 3) := by decide +kernel
theorem dX3_statement_93 : decode cX3_statement 93 = .ok (.goto 102, 3) := by decide +kernel
theorem dX3_statement_96 : decode cX3_statement 96 = .ok (.aload_n 0, 1) := by decide +kernel
theorem dX3_statement_97 : decode cX3_statement 97 = .ok (.iload_n 1, 1) := by decide +kernel
theorem dX3_statement_98 : decode cX3_statement 98 = .ok (.invokevirtual 96, 3) := by decide +kernel
theorem dX3_statement_101 : decode cX3_statement 101 = .ok (.goto 94, 3) := by decide +kernel
theorem dX3_statement_104 : decode cX3_statement 104 = .ok (.aload_n 0, 1) := by decide +kernel
theorem dX3_statement_105 : decode cX3_statement 105 = .ok (.getfield 15, 3) := by decide +kernel
theorem dX3_statement_108 : decode cX3_statement 108 = .ok (.iconst 1, 1) := by decide +kernel
theorem dX3_statement_109 : decode cX3_statement 109 = .ok (.invokevirtual 48, 3) := by decide +kernel
theorem dX3_statement_112 : decode cX3_statement 112 = .ok (.aload_n 0, 1) := by decide +kernel
theorem dX3_statement_113 : decode cX3_statement 113 = .ok (.iload_n 1, 1) := by decide +kernel
theorem dX3_statement_114 : decode cX3_statement 114 = .ok (.invokevirtual 118, 3) := by decide +kernel
theorem dX3_statement_117 : decode cX3_statement 117 = .ok (.pop, 1) := by decide +kernel
theorem dX3_statement_118 : decode cX3_statement 118 = .ok (.aload_n 0, 1) := by decide +kernel
theorem dX3_statement_119 : decode cX3_statement 119 = .ok (.iload_n 1, 1) := by decide +kernel
theorem dX3_statement_120 : decode cX3_statement 120 = .ok (.invokevirtual 96, 3) := by decide +kernel
theorem dX3_statement_123 : decode cX3_statement 123 = .ok (.goto 72, 3) := by decide +kernel
theorem dX3_statement_126 : decode cX3_statement 126 = .ok (.aload_n 0, 1) := by decide +kernel
theorem dX3_statement_127 : decode cX3_statement 127 = .ok (.getfield 15, 3) := by decide +kernel
theorem dX3_statement_130 : decode cX3_statement 130 = .ok (.iconst 1, 1) := by decide +kernel
theorem dX3_statement_131 : decode cX3_statement 131 = .ok (.invokevirtual 48, 3) := by decide +kernel
theorem dX3_statement_134 : decode cX3_statement 134 = .ok (.aload_n 0, 1) := by decide +kernel
theorem dX3_statement_135 : decode cX3_statement 135 = .ok (.getfield 15, 3) := by decide +kernel
theorem dX3_statement_138 : decode cX3_statement 138 = .ok (.invokevirtual 29, 3) := by decide +kernel
theorem dX3_statement_141 : decode cX3_statement 141 = .ok (.bipush 59, 2) := by decide +kernel
theorem dX3_statement_143 : decode cX3_statement 143 = .ok (.if_icmp .eq 9, 3) := by decide +kernel
theorem dX3_statement_146 : decode cX3_statement 146 = .ok (.aload_n 0, 1) := by decide +kernel
theorem dX3_statement_147 : decode cX3_statement 147 = .ok (.iload_n 1, 1) := by decide +kernel
theorem dX3_statement_148 : decode cX3_statement 148 = .ok (.invokevirtual 118, 3) := by decide +kernel
theorem dX3_statement_151 : decode cX3_statement 151 = .ok (.pop, 1) := by decide +kernel
theorem dX3_statement_152 : decode cX3_statement 152 = .ok (.aload_n 0, 1) := by decide +kernel
theorem dX3_statement_153 : decode cX3_statement 153 = .ok (.getfield 15, 3) := by decide +kernel
theorem dX3_statement_156 : decode cX3_statement 156 = .ok (.bipush 59, 2) := by decide +kernel
theorem dX3_statement_158 : decode cX3_statement 158 = .ok (.invokevirtual 51, 3) := by decide +kernel
theorem dX3_statement_161 : decode cX3_statement 161 = .ok (.goto 34, 3) := by decide +kernel
theorem dX3_statement_164 : decode cX3_statement 164 = .ok (.aload_n 0, 1) := by decide +kernel
theorem dX3_statement_165 : decode cX3_statement 165 = .ok (.getfield 15, 3) := by decide +kernel
theorem dX3_statement_168 : decode cX3_statement 168 = .ok (.iconst 1, 1) := by decide +kernel
theorem dX3_statement_169 : decode cX3_statement 169 = .ok (.invokevirtual 48, 3) := by decide +kernel
theorem dX3_statement_172 : decode cX3_statement 172 = .ok (.aload_n 0, 1) := by decide +kernel
theorem dX3_statement_173 : decode cX3_statement 173 = .ok (.iload_n 1, 1) := by decide +kernel
theorem dX3_statement_174 : decode cX3_statement 174 = .ok (.invokevirtual 118, 3) := by decide +kernel
theorem dX3_statement_177 : decode cX3_statement 177 = .ok (.pop, 1) := by decide +kernel
theorem dX3_statement_178 : decode cX3_statement 178 = .ok (.aload_n 0, 1) := by decide +kernel
theorem dX3_statement_179 : decode cX3_statement 179 = .ok (.getfield 15, 3) := by decide +kernel
theorem dX3_statement_182 : decode cX3_statement 182 = .ok (.bipush 59, 2) := by decide +kernel
theorem dX3_statement_184 : decode cX3_statement 184 = .ok (.invokevirtual 51, 3) := by decide +kernel
theorem dX3_statement_187 : decode cX3_statement 187 = .ok (.goto 8, 3) := by decide +kernel
theorem dX3_statement_190 : decode cX3_statement 190 = .ok (.aload_n 0, 1) := by decide +kernel
theorem dX3_statement_191 : decode cX3_statement 191 = .ok (.iload_n 1, 1) := by decide +kernel
theorem dX3_statement_192 : decode cX3_statement 192 = .ok (.invokevirtual 121, 3) := by decide +kernel
theorem dX3_statement_195 : decode cX3_statement 195 = .ok (.return_, 1) := by decide +kernel
theorem dX3_suffixed_0 : decode cX3_suffixed 0 = .ok (.aload_n 0, 1) := by decide +kernel
theorem dX3_suffixed_1 : decode cX3_suffixed 1 = .ok (.iload_n 1, 1) := by decide +kernel
theorem dX3_suffixed_2 : decode cX3_suffixed 2 = .ok (.invokevirtual 146, 3) := by decide +kernel
theorem dX3_suffixed_5 : decode cX3_suffixed 5 = .ok (.istore_n 2, 1) := by decide +kernel
theorem dX3_suffixed_6 : decode cX3_suffixed 6 = .ok (.iconst 0, 1) := by decide +kernel
theorem dX3_suffixed_7 : decode cX3_suffixed 7 = .ok (.istore_n 3, 1) := by decide +kernel
theorem dX3_suffixed_8 : decode cX3_suffixed 8 = .ok (.iload_n 3, 1) := by decide +kernel
theorem dX3_suffixed_9 : decode cX3_suffixed 9 = .ok (.sipush 3002, 3) := by decide +kernel
theorem dX3_suffixed_12 : decode cX3_suffixed 12 = .ok (.if_icmp .ge 50, 3) := by decide +kernel
theorem dX3_suffixed_15 : decode cX3_suffixed 15 = .ok (.aload_n 0, 1) := by decide +kernel
theorem dX3_suffixed_16 : decode cX3_suffixed 16 = .ok (.getfield 15, 3) := by decide +kernel
theorem dX3_suffixed_19 : decode cX3_suffixed 19 = .ok (.invokevirtual 29, 3) := by decide +kernel
theorem dX3_suffixed_22 : decode cX3_suffixed 22 = .ok (.bipush 46, 2) := by decide +kernel
theorem dX3_suffixed_24 : decode cX3_suffixed 24 = .ok (.if_icmp .ne 38, 3) := by decide +kernel
theorem dX3_suffixed_27 : decode cX3_suffixed 27 = .ok (.iload_n 3, 1) := by decide +kernel
theorem dX3_suffixed_28 : decode cX3_suffixed 28 = .ok (.bipush 16, 2) := by decide +kernel
theorem dX3_suffixed_30 : decode cX3_suffixed 30 = .ok (.if_icmp .ne 10, 3) := by decide +kernel
theorem dX3_suffixed_33 : decode cX3_suffixed 33 = .ok (.aload_n 0, 1) := by decide +kernel
theorem dX3_suffixed_34 : decode cX3_suffixed 34 = .ok (.invokevirtual 61, 3) := by decide +kernel
theorem dX3_suffixed_37 : decode cX3_suffixed 37 = .ok (.goto 19, 3) := by decide +kernel
theorem dX3_suffixed_40 : decode cX3_suffixed 40 = .ok (.aload_n 0, 1) := by decide +kernel
theorem dX3_suffixed_41 : decode cX3_suffixed 41 = .ok (.getfield 15, 3) := by decide +kernel
theorem dX3_suffixed_44 : decode cX3_suffixed 44 = .ok (.iconst 1, 1) := by decide +kernel
theorem dX3_suffixed_45 : decode cX3_suffixed 45 = .ok (.invokevirtual 48, 3) := by decide +kernel
theorem dX3_suffixed_48 : decode cX3_suffixed 48 = .ok (.aload_n 0, 1) := by decide +kernel
theorem dX3_suffixed_49 : decode cX3_suffixed 49 = .ok (.getfield 15, 3) := by decide +kernel
theorem dX3_suffixed_52 : decode cX3_suffixed 52 = .ok (.iconst 2, 1) := by decide +kernel
theorem dX3_suffixed_53 : decode cX3_suffixed 53 = .ok (.invokevirtual 51, 3) := by decide +kernel
theorem dX3_suffixed_56 : decode cX3_suffixed 56 = .ok (.iinc 3 1, 3) := by decide +kernel
theorem dX3_suffixed_59 : decode cX3_suffixed 59 = .ok (.goto (-51), 3) := by decide +kernel
theorem dX3_suffixed_62 : decode cX3_suffixed 62 = .ok (.iload_n 2, 1) := by decide +kernel
theorem dX3_suffixed_63 : decode cX3_suffixed 63 = .ok (.ireturn, 1) := by decide +kernel
theorem dX3_syntax_0 : decode cX3_syntax 0 = .ok (.aload_n 0, 1) := by decide +kernel
theorem dX3_syntax_1 : decode cX3_syntax 1 = .ok (.getfield 15, 3) := by decide +kernel
theorem dX3_syntax_4 : decode cX3_syntax 4 = .ok (.iconst 1, 1) := by decide +kernel
theorem dX3_syntax_5 : decode cX3_syntax 5 = .ok (.aload_n 0, 1) := by decide +kernel
theorem dX3_syntax_6 : decode cX3_syntax 6 = .ok (.getfield 15, 3) := by decide +kernel
theorem dX3_syntax_9 : decode cX3_syntax 9 = .ok (.invokevirtual 54, 3) := by decide +kernel
theorem dX3_syntax_12 : decode cX3_syntax 12 = .ok (.invokevirtual 57, 3) := by decide +kernel
theorem dX3_syntax_15 : decode cX3_syntax 15 = .ok (.return_, 1) := by decide +kernel
theorem dX3_type_0 : decode cX3_type 0 = .ok (.iload_n 1, 1) := by decide +kernel
theorem dX3_type_1 : decode cX3_type 1 = .ok (.istore_n 2, 1) := by decide +kernel
theorem dX3_type_2 : decode cX3_type 2 = .ok (.iconst 0, 1) := by decide +kernel
theorem dX3_type_3 : decode cX3_type 3 = .ok (.istore_n 3, 1) := by decide +kernel
theorem dX3_type_4 : decode cX3_type 4 = .ok (.iload_n 3, 1) := by decide +kernel
theorem dX3_type_5 : decode cX3_type 5 = .ok (.sipush 3002, 3) := by decide +kernel
theorem dX3_type_8 : decode cX3_type 8 = .ok (.if_icmp .ge 88, 3) := by decide +kernel
theorem dX3_type_11 : decode cX3_type 11 = .ok (.aload_n 0, 1) := by decide +kernel
theorem dX3_type_12 : decode cX3_type 12 = .ok (.getfield 15, 3) := by decide +kernel
theorem dX3_type_15 : decode cX3_type 15 = .ok (.invokevirtual 29, 3) := by decide +kernel
theorem dX3_type_18 : decode cX3_type 18 = .ok (.bipush 19, 2) := by decide +kernel
theorem dX3_type_20 : decode cX3_type 20 = .ok (.if_icmp .eq 15, 3) := by decide +kernel
theorem dX3_type_23 : decode cX3_type 23 = .ok (.aload_n 0, 1) := by decide +kernel
theorem dX3_type_24 : decode cX3_type 24 = .ok (.getfield 15, 3) := by decide +kernel
theorem dX3_type_27 : decode cX3_type 27 = .ok (.invokevirtual 29, 3) := by decide +kernel
theorem dX3_type_30 : decode cX3_type 30 = .ok (.bipush 38, 2) := by decide +kernel
theorem dX3_type_32 : decode cX3_type 32 = .ok (.if_icmp .ne 64, 3) := by decide +kernel
theorem dX3_type_35 : decode cX3_type 35 = .ok (.iinc 2 1, 3) := by decide +kernel
theorem dX3_type_38 : decode cX3_type 38 = .ok (.iload_n 2, 1) := by decide +kernel
theorem dX3_type_39 : decode cX3_type 39 = .ok (.bipush 16, 2) := by decide +kernel
theorem dX3_type_41 : decode cX3_type 41 = .ok (.if_icmp .le 10, 3) := by decide +kernel
theorem dX3_type_44 : decode cX3_type 44 = .ok (.aload_n 0, 1) := by decide +kernel
theorem dX3_type_45 : decode cX3_type 45 = .ok (.invokevirtual 61, 3) := by decide +kernel
theorem dX3_type_48 : decode cX3_type 48 = .ok (.goto 42, 3) := by decide +kernel
theorem dX3_type_51 : decode cX3_type 51 = .ok (.aload_n 0, 1) := by decide +kernel
theorem dX3_type_52 : decode cX3_type 52 = .ok (.getfield 15, 3) := by decide +kernel
theorem dX3_type_55 : decode cX3_type 55 = .ok (.bipush 19, 2) := by decide +kernel
theorem dX3_type_57 : decode cX3_type 57 = .ok (.invokevirtual 67, 3) := by decide +kernel
theorem dX3_type_60 : decode cX3_type 60 = .ok (.ifCond .ne 30, 3) := by decide +kernel
theorem dX3_type_63 : decode cX3_type 63 = .ok (.aload_n 0, 1) := by decide +kernel
theorem dX3_type_64 : decode cX3_type 64 = .ok (.getfield 15, 3) := by decide +kernel
theorem dX3_type_67 : decode cX3_type 67 = .ok (.iconst 1, 1) := by decide +kernel
theorem dX3_type_68 : decode cX3_type 68 = .ok (.invokevirtual 48, 3) := by decide +kernel
theorem dX3_type_71 : decode cX3_type 71 = .ok (.aload_n 0, 1) := by decide +kernel
theorem dX3_type_72 : decode cX3_type 72 = .ok (.getfield 15, 3) := by decide +kernel
theorem dX3_type_75 : decode cX3_type 75 = .ok (.iconst 3, 1) := by decide +kernel
theorem dX3_type_76 : decode cX3_type 76 = .ok (.invokevirtual 67, 3) := by decide +kernel
theorem dX3_type_79 : decode cX3_type 79 = .ok (.pop, 1) := by decide +kernel
theorem dX3_type_80 : decode cX3_type 80 = .ok (.aload_n 0, 1) := by decide +kernel
theorem dX3_type_81 : decode cX3_type 81 = .ok (.getfield 15, 3) := by decide +kernel
theorem dX3_type_84 : decode cX3_type 84 = .ok (.bipush 9, 2) := by decide +kernel
theorem dX3_type_86 : decode cX3_type 86 = .ok (.invokevirtual 67, 3) := by decide +kernel
theorem dX3_type_89 : decode cX3_type 89 = .ok (.pop, 1) := by decide +kernel
theorem dX3_type_90 : decode cX3_type 90 = .ok (.iinc 3 1, 3) := by decide +kernel
theorem dX3_type_93 : decode cX3_type 93 = .ok (.goto (-89), 3) := by decide +kernel
theorem dX3_type_96 : decode cX3_type 96 = .ok (.aload_n 0, 1) := by decide +kernel
theorem dX3_type_97 : decode cX3_type 97 = .ok (.getfield 15, 3) := by decide +kernel
theorem dX3_type_100 : decode cX3_type 100 = .ok (.invokevirtual 29, 3) := by decide +kernel
theorem dX3_type_103 : decode cX3_type 103 = .ok (.invokestatic 81, 3) := by decide +kernel
theorem dX3_type_106 : decode cX3_type 106 = .ok (.ifCond .eq 14, 3) := by decide +kernel
theorem dX3_type_109 : decode cX3_type 109 = .ok (.aload_n 0, 1) := by decide +kernel
theorem dX3_type_110 : decode cX3_type 110 = .ok (.getfield 15, 3) := by decide +kernel
theorem dX3_type_113 : decode cX3_type 113 = .ok (.iconst 1, 1) := by decide +kernel
theorem dX3_type_114 : decode cX3_type 114 = .ok (.invokevirtual 48, 3) := by decide +kernel
theorem dX3_type_117 : decode cX3_type 117 = .ok (.goto 7, 3) := by decide +kernel
theorem dX3_type_120 : decode cX3_type 120 = .ok (.aload_n 0, 1) := by decide +kernel
theorem dX3_type_121 : decode cX3_type 121 = .ok (.invokevirtual 42, 3) := by decide +kernel
theorem dX3_type_124 : decode cX3_type 124 = .ok (.return_, 1) := by decide +kernel
theorem dX3_unary_0 : decode cX3_unary 0 = .ok (.aload_n 0, 1) := by decide +kernel
theorem dX3_unary_1 : decode cX3_unary 1 = .ok (.getfield 15, 3) := by decide +kernel
theorem dX3_unary_4 : decode cX3_unary 4 = .ok (.invokevirtual 29, 3) := by decide +kernel
theorem dX3_unary_7 : decode cX3_unary 7 = .ok (.istore_n 2, 1) := by decide +kernel
theorem dX3_unary_8 : decode cX3_unary 8 = .ok (.iload_n 2, 1) := by decide +kernel
theorem dX3_unary_9 : decode cX3_unary 9 = .ok (.bipush 33, 2) := by decide +kernel
theorem dX3_unary_11 : decode cX3_unary 11 = .ok (.if_icmp .eq 33, 3) := by decide +kernel
theorem dX3_unary_14 : decode cX3_unary 14 = .ok (.iload_n 2, 1) := by decide +kernel
theorem dX3_unary_15 : decode cX3_unary 15 = .ok (.bipush 45, 2) := by decide +kernel
theorem dX3_unary_17 : decode cX3_unary 17 = .ok (.if_icmp .eq 27, 3) := by decide +kernel
theorem dX3_unary_20 : decode cX3_unary 20 = .ok (.iload_n 2, 1) := by decide +kernel
theorem dX3_unary_21 : decode cX3_unary 21 = .ok (.bipush 42, 2) := by decide +kernel
theorem dX3_unary_23 : decode cX3_unary 23 = .ok (.if_icmp .eq 21, 3) := by decide +kernel
theorem dX3_unary_26 : decode cX3_unary 26 = .ok (.iload_n 2, 1) := by decide +kernel
theorem dX3_unary_27 : decode cX3_unary 27 = .ok (.bipush 38, 2) := by decide +kernel
theorem dX3_unary_29 : decode cX3_unary 29 = .ok (.if_icmp .eq 15, 3) := by decide +kernel
theorem dX3_unary_32 : decode cX3_unary 32 = .ok (.iload_n 2, 1) := by decide +kernel
theorem dX3_unary_33 : decode cX3_unary 33 = .ok (.bipush 19, 2) := by decide +kernel
theorem dX3_unary_35 : decode cX3_unary 35 = .ok (.if_icmp .eq 9, 3) := by decide +kernel
theorem dX3_unary_38 : decode cX3_unary 38 = .ok (.aload_n 0, 1) := by decide +kernel
theorem dX3_unary_39 : decode cX3_unary 39 = .ok (.iload_n 1, 1) := by decide +kernel
theorem dX3_unary_40 : decode cX3_unary 40 = .ok (.invokevirtual 143, 3) := by decide +kernel
theorem dX3_unary_43 : decode cX3_unary 43 = .ok (.ireturn, 1) := by decide +kernel
theorem dX3_unary_44 : decode cX3_unary 44 = .ok (.iload_n 1, 1) := by decide +kernel
theorem dX3_unary_45 : decode cX3_unary 45 = .ok (.bipush 16, 2) := by decide +kernel
theorem dX3_unary_47 : decode cX3_unary 47 = .ok (.if_icmp .ne 9, 3) := by decide +kernel
theorem dX3_unary_50 : decode cX3_unary 50 = .ok (.aload_n 0, 1) := by decide +kernel
theorem dX3_unary_51 : decode cX3_unary 51 = .ok (.invokevirtual 61, 3) := by decide +kernel
theorem dX3_unary_54 : decode cX3_unary 54 = .ok (.iconst 0, 1) := by decide +kernel
theorem dX3_unary_55 : decode cX3_unary 55 = .ok (.ireturn, 1) := by decide +kernel
theorem dX3_unary_56 : decode cX3_unary 56 = .ok (.iload_n 2, 1) := by decide +kernel
theorem dX3_unary_57 : decode cX3_unary 57 = .ok (.bipush 38, 2) := by decide +kernel
theorem dX3_unary_59 : decode cX3_unary 59 = .ok (.if_icmp .ne 7, 3) := by decide +kernel
theorem dX3_unary_62 : decode cX3_unary 62 = .ok (.aload_n 0, 1) := by decide +kernel
theorem dX3_unary_63 : decode cX3_unary 63 = .ok (.invokevirtual 127, 3) := by decide +kernel
theorem dX3_unary_66 : decode cX3_unary 66 = .ok (.aload_n 0, 1) := by decide +kernel
theorem dX3_unary_67 : decode cX3_unary 67 = .ok (.getfield 15, 3) := by decide +kernel
theorem dX3_unary_70 : decode cX3_unary 70 = .ok (.iconst 1, 1) := by decide +kernel
theorem dX3_unary_71 : decode cX3_unary 71 = .ok (.invokevirtual 48, 3) := by decide +kernel
theorem dX3_unary_74 : decode cX3_unary 74 = .ok (.iload_n 2, 1) := by decide +kernel
theorem dX3_unary_75 : decode cX3_unary 75 = .ok (.bipush 38, 2) := by decide +kernel
theorem dX3_unary_77 : decode cX3_unary 77 = .ok (.if_icmp .ne 13, 3) := by decide +kernel
theorem dX3_unary_80 : decode cX3_unary 80 = .ok (.aload_n 0, 1) := by decide +kernel
theorem dX3_unary_81 : decode cX3_unary 81 = .ok (.getfield 15, 3) := by decide +kernel
theorem dX3_unary_84 : decode cX3_unary 84 = .ok (.bipush 9, 2) := by decide +kernel
theorem dX3_unary_86 : decode cX3_unary 86 = .ok (.invokevirtual 67, 3) := by decide +kernel
theorem dX3_unary_89 : decode cX3_unary 89 = .ok (.pop, 1) := by decide +kernel
theorem dX3_unary_90 : decode cX3_unary 90 = .ok (.aload_n 0, 1) := by decide +kernel
theorem dX3_unary_91 : decode cX3_unary 91 = .ok (.iload_n 1, 1) := by decide +kernel
theorem dX3_unary_92 : decode cX3_unary 92 = .ok (.iconst 1, 1) := by decide +kernel
theorem dX3_unary_93 : decode cX3_unary 93 = .ok (.iadd, 1) := by decide +kernel
theorem dX3_unary_94 : decode cX3_unary 94 = .ok (.invokevirtual 136, 3) := by decide +kernel
theorem dX3_unary_97 : decode cX3_unary 97 = .ok (.istore_n 3, 1) := by decide +kernel
theorem dX3_unary_98 : decode cX3_unary 98 = .ok (.iload_n 3, 1) := by decide +kernel
theorem dX3_unary_99 : decode cX3_unary 99 = .ok (.ifCond .eq 13, 3) := by decide +kernel
theorem dX3_unary_102 : decode cX3_unary 102 = .ok (.iload_n 2, 1) := by decide +kernel
theorem dX3_unary_103 : decode cX3_unary 103 = .ok (.bipush 42, 2) := by decide +kernel
theorem dX3_unary_105 : decode cX3_unary 105 = .ok (.if_icmp .ne 7, 3) := by decide +kernel
theorem dX3_unary_108 : decode cX3_unary 108 = .ok (.iconst 1, 1) := by decide +kernel
theorem dX3_unary_109 : decode cX3_unary 109 = .ok (.goto 4, 3) := by decide +kernel
theorem dX3_unary_112 : decode cX3_unary 112 = .ok (.iconst 0, 1) := by decide +kernel
theorem dX3_unary_113 : decode cX3_unary 113 = .ok (.ireturn, 1) := by decide +kernel
theorem dX3_variable_0 : decode cX3_variable 0 = .ok (.aload_n 0, 1) := by decide +kernel
theorem dX3_variable_1 : decode cX3_variable 1 = .ok (.getfield 15, 3) := by decide +kernel
theorem dX3_variable_4 : decode cX3_variable 4 = .ok (.invokevirtual 29, 3) := by decide +kernel
theorem dX3_variable_7 : decode cX3_variable 7 = .ok (.iconst 2, 1) := by decide +kernel
theorem dX3_variable_8 : decode cX3_variable 8 = .ok (.if_icmp .ne 22, 3) := by decide +kernel
theorem dX3_variable_11 : decode cX3_variable 11 = .ok (.iload_n 1, 1) := by decide +kernel
theorem dX3_variable_12 : decode cX3_variable 12 = .ok (.bipush 12, 2) := by decide +kernel
theorem dX3_variable_14 : decode cX3_variable 14 = .ok (.if_icmp .eq 12, 3) := by decide +kernel
theorem dX3_variable_17 : decode cX3_variable 17 = .ok (.aload_n 0, 1) := by decide +kernel
theorem dX3_variable_18 : decode cX3_variable 18 = .ok (.getfield 84, 3) := by decide +kernel
theorem dX3_variable_21 : decode cX3_variable 21 = .ok (.bipush 40, 2) := by decide +kernel
theorem dX3_variable_23 : decode cX3_variable 23 = .ok (.if_icmp .ne 7, 3) := by decide +kernel
theorem dX3_variable_26 : decode cX3_variable 26 = .ok (.aload_n 0, 1) := by decide +kernel
theorem dX3_variable_27 : decode cX3_variable 27 = .ok (.invokevirtual 61, 3) := by decide +kernel
theorem dX3_variable_30 : decode cX3_variable 30 = .ok (.aload_n 0, 1) := by decide +kernel
theorem dX3_variable_31 : decode cX3_variable 31 = .ok (.dup, 1) := by decide +kernel
theorem dX3_variable_32 : decode cX3_variable 32 = .ok (.getfield 84, 3) := by decide +kernel
theorem dX3_variable_35 : decode cX3_variable 35 = .ok (.iconst 1, 1) := by decide +kernel
theorem dX3_variable_36 : decode cX3_variable 36 = .ok (.iadd, 1) := by decide +kernel
theorem dX3_variable_37 : decode cX3_variable 37 = .ok (.putfield 84, 3) := by decide +kernel
theorem dX3_variable_40 : decode cX3_variable 40 = .ok (.aload_n 0, 1) := by decide +kernel
theorem dX3_variable_41 : decode cX3_variable 41 = .ok (.getfield 15, 3) := by decide +kernel
theorem dX3_variable_44 : decode cX3_variable 44 = .ok (.iconst 2, 1) := by decide +kernel
theorem dX3_variable_45 : decode cX3_variable 45 = .ok (.invokevirtual 51, 3) := by decide +kernel
theorem dX3_variable_48 : decode cX3_variable 48 = .ok (.return_, 1) := by decide +kernel
theorem dX3_variantParts_0 : decode cX3_variantParts 0 = .ok (.aload_n 0, 1) := by decide +kernel
theorem dX3_variantParts_1 : decode cX3_variantParts 1 = .ok (.getfield 15, 3) := by decide +kernel
theorem dX3_variantParts_4 : decode cX3_variantParts 4 = .ok (.bipush 40, 2) := by decide +kernel
theorem dX3_variantParts_6 : decode cX3_variantParts 6 = .ok (.invokevirtual 67, 3) := by decide +kernel
theorem dX3_variantParts_9 : decode cX3_variantParts 9 = .ok (.ifCond .ne 4, 3) := by decide +kernel
theorem dX3_variantParts_12 : decode cX3_variantParts 12 = .ok (.return_, 1) := by decide +kernel
theorem dX3_variantParts_13 : decode cX3_variantParts 13 = .ok (.iconst 0, 1) := by decide +kernel
theorem dX3_variantParts_14 : decode cX3_variantParts 14 = .ok (.istore_n 1, 1) := by decide +kernel
theorem dX3_variantParts_15 : decode cX3_variantParts 15 = .ok (.iload_n 1, 1) := by decide +kernel
theorem dX3_variantParts_16 : decode cX3_variantParts 16 = .ok (.sipush 3002, 3) := by decide +kernel
theorem dX3_variantParts_19 : decode cX3_variantParts 19 = .ok (.if_icmp .ge 47, 3) := by decide +kernel
theorem dX3_variantParts_22 : decode cX3_variantParts 22 = .ok (.iload_n 1, 1) := by decide +kernel
theorem dX3_variantParts_23 : decode cX3_variantParts 23 = .ok (.ifCond .eq 15, 3) := by decide +kernel
theorem dX3_variantParts_26 : decode cX3_variantParts 26 = .ok (.aload_n 0, 1) := by decide +kernel
theorem dX3_variantParts_27 : decode cX3_variantParts 27 = .ok (.getfield 15, 3) := by decide +kernel
theorem dX3_variantParts_30 : decode cX3_variantParts 30 = .ok (.bipush 44, 2) := by decide +kernel
theorem dX3_variantParts_32 : decode cX3_variantParts 32 = .ok (.invokevirtual 67, 3) := by decide +kernel
theorem dX3_variantParts_35 : decode cX3_variantParts 35 = .ok (.ifCond .eq 31, 3) := by decide +kernel
theorem dX3_variantParts_38 : decode cX3_variantParts 38 = .ok (.iload_n 1, 1) := by decide +kernel
theorem dX3_variantParts_39 : decode cX3_variantParts 39 = .ok (.bipush 12, 2) := by decide +kernel
theorem dX3_variantParts_41 : decode cX3_variantParts 41 = .ok (.if_icmp .ne 14, 3) := by decide +kernel
theorem dX3_variantParts_44 : decode cX3_variantParts 44 = .ok (.aload_n 0, 1) := by decide +kernel
theorem dX3_variantParts_45 : decode cX3_variantParts 45 = .ok (.invokevirtual 77, 3) := by decide +kernel
theorem dX3_variantParts_48 : decode cX3_variantParts 48 = .ok (.ifCond .eq 7, 3) := by decide +kernel
theorem dX3_variantParts_51 : decode cX3_variantParts 51 = .ok (.aload_n 0, 1) := by decide +kernel
theorem dX3_variantParts_52 : decode cX3_variantParts 52 = .ok (.invokevirtual 61, 3) := by decide +kernel
theorem dX3_variantParts_55 : decode cX3_variantParts 55 = .ok (.aload_n 0, 1) := by decide +kernel
theorem dX3_variantParts_56 : decode cX3_variantParts 56 = .ok (.iconst 0, 1) := by decide +kernel
theorem dX3_variantParts_57 : decode cX3_variantParts 57 = .ok (.invokevirtual 74, 3) := by decide +kernel
theorem dX3_variantParts_60 : decode cX3_variantParts 60 = .ok (.iinc 1 1, 3) := by decide +kernel
theorem dX3_variantParts_63 : decode cX3_variantParts 63 = .ok (.goto (-48), 3) := by decide +kernel
theorem dX3_variantParts_66 : decode cX3_variantParts 66 = .ok (.aload_n 0, 1) := by decide +kernel
theorem dX3_variantParts_67 : decode cX3_variantParts 67 = .ok (.getfield 15, 3) := by decide +kernel
theorem dX3_variantParts_70 : decode cX3_variantParts 70 = .ok (.bipush 41, 2) := by decide +kernel
theorem dX3_variantParts_72 : decode cX3_variantParts 72 = .ok (.invokevirtual 51, 3) := by decide +kernel
theorem dX3_variantParts_75 : decode cX3_variantParts 75 = .ok (.return_, 1) := by decide +kernel
