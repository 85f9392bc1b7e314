theorem dX8_init_0 : decode cX8_init 0 = .ok (.aload_n 0, 1) := by decide +kernel
theorem dX8_init_1 : decode cX8_init 1 = .ok (.invokespecial 1, 3) := by decide +kernel
theorem dX8_init_4 : decode cX8_init 4 = .ok (.aload_n 0, 1) := by decide +kernel
theorem dX8_init_5 : decode cX8_init 5 = .ok (.bipush 20, 2) := by decide +kernel
theorem dX8_init_7 : decode cX8_init 7 = .ok (.newarray .byte, 2) := by decide +kernel
theorem dX8_init_9 : decode cX8_init 9 = .ok (.putfield 7, 3) := by decide +kernel
theorem dX8_init_12 : decode cX8_init 12 = .ok (.aload_n 0, 1) := by decide +kernel
theorem dX8_init_13 : decode cX8_init 13 = .ok (.iload_n 1, 1) := by decide +kernel
theorem dX8_init_14 : decode cX8_init 14 = .ok (.newarray .long, 2) := by decide +kernel
theorem dX8_init_16 : decode cX8_init 16 = .ok (.putfield 13, 3) := by decide +kernel
theorem dX8_init_19 : decode cX8_init 19 = .ok (.return_, 1) := by decide +kernel
theorem dX8_put_0 : decode cX8_put 0 = .ok (.aload_n 0, 1) := by decide +kernel
theorem dX8_put_1 : decode cX8_put 1 = .ok (.getfield 17, 3) := by decide +kernel
theorem dX8_put_4 : decode cX8_put 4 = .ok (.aload_n 0, 1) := by decide +kernel
theorem dX8_put_5 : decode cX8_put 5 = .ok (.getfield 13, 3) := by decide +kernel
theorem dX8_put_8 : decode cX8_put 8 = .ok (.arraylength, 1) := by decide +kernel
theorem dX8_put_9 : decode cX8_put 9 = .ok (.if_icmp .ne 5, 3) := by decide +kernel
theorem dX8_put_12 : decode cX8_put 12 = .ok (.iconst 0, 1) := by decide +kernel
theorem dX8_put_13 : decode cX8_put 13 = .ok (.ireturn, 1) := by decide +kernel
theorem dX8_put_14 : decode cX8_put 14 = .ok (.aload_n 0, 1) := by decide +kernel
theorem dX8_put_15 : decode cX8_put 15 = .ok (.getfield 13, 3) := by decide +kernel
theorem dX8_put_18 : decode cX8_put 18 = .ok (.aload_n 0, 1) := by decide +kernel
theorem dX8_put_19 : decode cX8_put 19 = .ok (.getfield 21, 3) := by decide +kernel
theorem dX8_put_22 : decode cX8_put 22 = .ok (.aload_n 0, 1) := by decide +kernel
theorem dX8_put_23 : decode cX8_put 23 = .ok (.getfield 17, 3) := by decide +kernel
theorem dX8_put_26 : decode cX8_put 26 = .ok (.iadd, 1) := by decide +kernel
theorem dX8_put_27 : decode cX8_put 27 = .ok (.aload_n 0, 1) := by decide +kernel
theorem dX8_put_28 : decode cX8_put 28 = .ok (.getfield 13, 3) := by decide +kernel
theorem dX8_put_31 : decode cX8_put 31 = .ok (.arraylength, 1) := by decide +kernel
theorem dX8_put_32 : decode cX8_put 32 = .ok (.irem, 1) := by decide +kernel
theorem dX8_put_33 : decode cX8_put 33 = .ok (.lload_n 1, 1) := by decide +kernel
theorem dX8_put_34 : decode cX8_put 34 = .ok (.lastore, 1) := by decide +kernel
theorem dX8_put_35 : decode cX8_put 35 = .ok (.aload_n 0, 1) := by decide +kernel
theorem dX8_put_36 : decode cX8_put 36 = .ok (.dup, 1) := by decide +kernel
theorem dX8_put_37 : decode cX8_put 37 = .ok (.getfield 17, 3) := by decide +kernel
theorem dX8_put_40 : decode cX8_put 40 = .ok (.iconst 1, 1) := by decide +kernel
theorem dX8_put_41 : decode cX8_put 41 = .ok (.iadd, 1) := by decide +kernel
theorem dX8_put_42 : decode cX8_put 42 = .ok (.putfield 17, 3) := by decide +kernel
theorem dX8_put_45 : decode cX8_put 45 = .ok (.iconst 1, 1) := by decide +kernel
theorem dX8_put_46 : decode cX8_put 46 = .ok (.ireturn, 1) := by decide +kernel
theorem dX8_putNumber_0 : decode cX8_putNumber 0 = .ok (.iconst 0, 1) := by decide +kernel
theorem dX8_putNumber_1 : decode cX8_putNumber 1 = .ok (.istore_n 3, 1) := by decide +kernel
theorem dX8_putNumber_2 : decode cX8_putNumber 2 = .ok (.lload_n 1, 1) := by decide +kernel
theorem dX8_putNumber_3 : decode cX8_putNumber 3 = .ok (.lstore 4, 2) := by decide +kernel
theorem dX8_putNumber_5 : decode cX8_putNumber 5 = .ok (.lload 4, 2) := by decide +kernel
theorem dX8_putNumber_7 : decode cX8_putNumber 7 = .ok (.lconst 0, 1) := by decide +kernel
theorem dX8_putNumber_8 : decode cX8_putNumber 8 = .ok (.lcmp, 1) := by decide +kernel
theorem dX8_putNumber_9 : decode cX8_putNumber 9 = .ok (.ifCond .le 8, 3) := by decide +kernel
theorem dX8_putNumber_12 : decode cX8_putNumber 12 = .ok (.lload 4, 2) := by decide +kernel
theorem dX8_putNumber_14 : decode cX8_putNumber 14 = .ok (.lneg, 1) := by decide +kernel
theorem dX8_putNumber_15 : decode cX8_putNumber 15 = .ok (.lstore 4, 2) := by decide +kernel
theorem dX8_putNumber_17 : decode cX8_putNumber 17 = .ok (.aload_n 0, 1) := by decide +kernel
theorem dX8_putNumber_18 : decode cX8_putNumber 18 = .ok (.getfield 7, 3) := by decide +kernel
theorem dX8_putNumber_21 : decode cX8_putNumber 21 = .ok (.iload_n 3, 1) := by decide +kernel
theorem dX8_putNumber_22 : decode cX8_putNumber 22 = .ok (.ldc2_w 38, 3) := by decide +kernel
theorem dX8_putNumber_25 : decode cX8_putNumber 25 = .ok (.lload 4, 2) := by decide +kernel
theorem dX8_putNumber_27 : decode cX8_putNumber 27 = .ok (.ldc2_w 40, 3) := by decide +kernel
theorem dX8_putNumber_30 : decode cX8_putNumber 30 = .ok (.lrem, 1) := by decide +kernel
theorem dX8_putNumber_31 : decode cX8_putNumber 31 = .ok (.lsub, 1) := by decide +kernel
theorem dX8_putNumber_32 : decode cX8_putNumber 32 = .ok (.l2i, 1) := by decide +kernel
theorem dX8_putNumber_33 : decode cX8_putNumber 33 = .ok (.i2b, 1) := by decide +kernel
theorem dX8_putNumber_34 : decode cX8_putNumber 34 = .ok (.bastore, 1) := by decide +kernel
theorem dX8_putNumber_35 : decode cX8_putNumber 35 = .ok (.lload 4, 2) := by decide +kernel
theorem dX8_putNumber_37 : decode cX8_putNumber 37 = .ok (.ldc2_w 40, 3) := by decide +kernel
theorem dX8_putNumber_40 : decode cX8_putNumber 40 = .ok (.ldiv, 1) := by decide +kernel
theorem dX8_putNumber_41 : decode cX8_putNumber 41 = .ok (.lstore 4, 2) := by decide +kernel
theorem dX8_putNumber_43 : decode cX8_putNumber 43 = .ok (.iinc 3 1, 3) := by decide +kernel
theorem dX8_putNumber_46 : decode cX8_putNumber 46 = .ok (.lload 4, 2) := by decide +kernel
theorem dX8_putNumber_48 : decode cX8_putNumber 48 = .ok (.lconst 0, 1) := by decide +kernel
theorem dX8_putNumber_49 : decode cX8_putNumber 49 = .ok (.lcmp, 1) := by decide +kernel
theorem dX8_putNumber_50 : decode cX8_putNumber 50 = .ok (.ifCond .eq 12, 3) := by decide +kernel
theorem dX8_putNumber_53 : decode cX8_putNumber 53 = .ok (.iload_n 3, 1) := by decide +kernel
theorem dX8_putNumber_54 : decode cX8_putNumber 54 = .ok (.aload_n 0, 1) := by decide +kernel
theorem dX8_putNumber_55 : decode cX8_putNumber 55 = .ok (.getfield 7, 3) := by decide +kernel
theorem dX8_putNumber_58 : decode cX8_putNumber 58 = .ok (.arraylength, 1) := by decide +kernel
theorem dX8_putNumber_59 : decode cX8_putNumber 59 = .ok (.if_icmp .lt (-42), 3) := by decide +kernel
theorem dX8_putNumber_62 : decode cX8_putNumber 62 = .ok (.lload_n 1, 1) := by decide +kernel
theorem dX8_putNumber_63 : decode cX8_putNumber 63 = .ok (.lconst 0, 1) := by decide +kernel
theorem dX8_putNumber_64 : decode cX8_putNumber 64 = .ok (.lcmp, 1) := by decide +kernel
theorem dX8_putNumber_65 : decode cX8_putNumber 65 = .ok (.ifCond .ge 11, 3) := by decide +kernel
theorem dX8_putNumber_68 : decode cX8_putNumber 68 = .ok (.aload_n 0, 1) := by decide +kernel
theorem dX8_putNumber_69 : decode cX8_putNumber 69 = .ok (.ldc2_w 42, 3) := by decide +kernel
theorem dX8_putNumber_72 : decode cX8_putNumber 72 = .ok (.invokevirtual 34, 3) := by decide +kernel
theorem dX8_putNumber_75 : decode cX8_putNumber 75 = .ok (.pop, 1) := by decide +kernel
theorem dX8_putNumber_76 : decode cX8_putNumber 76 = .ok (.iload_n 3, 1) := by decide +kernel
theorem dX8_putNumber_77 : decode cX8_putNumber 77 = .ok (.iconst 1, 1) := by decide +kernel
theorem dX8_putNumber_78 : decode cX8_putNumber 78 = .ok (.isub, 1) := by decide +kernel
theorem dX8_putNumber_79 : decode cX8_putNumber 79 = .ok (.istore 6, 2) := by decide +kernel
theorem dX8_putNumber_81 : decode cX8_putNumber 81 = .ok (.iload 6, 2) := by decide +kernel
theorem dX8_putNumber_83 : decode cX8_putNumber 83 = .ok (.ifCond .lt 22, 3) := by decide +kernel
theorem dX8_putNumber_86 : decode cX8_putNumber 86 = .ok (.aload_n 0, 1) := by decide +kernel
theorem dX8_putNumber_87 : decode cX8_putNumber 87 = .ok (.aload_n 0, 1) := by decide +kernel
theorem dX8_putNumber_88 : decode cX8_putNumber 88 = .ok (.getfield 7, 3) := by decide +kernel
theorem dX8_putNumber_91 : decode cX8_putNumber 91 = .ok (.iload 6, 2) := by decide +kernel
theorem dX8_putNumber_93 : decode cX8_putNumber 93 = .ok (.baload, 1) := by decide +kernel
theorem dX8_putNumber_94 : decode cX8_putNumber 94 = .ok (.i2l, 1) := by decide +kernel
theorem dX8_putNumber_95 : decode cX8_putNumber 95 = .ok (.invokevirtual 34, 3) := by decide +kernel
theorem dX8_putNumber_98 : decode cX8_putNumber 98 = .ok (.pop, 1) := by decide +kernel
theorem dX8_putNumber_99 : decode cX8_putNumber 99 = .ok (.iinc 6 (-1), 3) := by decide +kernel
theorem dX8_putNumber_102 : decode cX8_putNumber 102 = .ok (.goto (-21), 3) := by decide +kernel
theorem dX8_putNumber_105 : decode cX8_putNumber 105 = .ok (.return_, 1) := by decide +kernel
theorem dX8_putText_0 : decode cX8_putText 0 = .ok (.iconst 0, 1) := by decide +kernel
theorem dX8_putText_1 : decode cX8_putText 1 = .ok (.istore_n 2, 1) := by decide +kernel
theorem dX8_putText_2 : decode cX8_putText 2 = .ok (.iload_n 2, 1) := by decide +kernel
theorem dX8_putText_3 : decode cX8_putText 3 = .ok (.aload_n 1, 1) := by decide +kernel
theorem dX8_putText_4 : decode cX8_putText 4 = .ok (.invokevirtual 24, 3) := by decide +kernel
theorem dX8_putText_7 : decode cX8_putText 7 = .ok (.if_icmp .ge 20, 3) := by decide +kernel
theorem dX8_putText_10 : decode cX8_putText 10 = .ok (.aload_n 0, 1) := by decide +kernel
theorem dX8_putText_11 : decode cX8_putText 11 = .ok (.aload_n 1, 1) := by decide +kernel
theorem dX8_putText_12 : decode cX8_putText 12 = .ok (.iload_n 2, 1) := by decide +kernel
theorem dX8_putText_13 : decode cX8_putText 13 = .ok (.invokevirtual 30, 3) := by decide +kernel
theorem dX8_putText_16 : decode cX8_putText 16 = .ok (.i2l, 1) := by decide +kernel
theorem dX8_putText_17 : decode cX8_putText 17 = .ok (.invokevirtual 34, 3) := by decide +kernel
theorem dX8_putText_20 : decode cX8_putText 20 = .ok (.pop, 1) := by decide +kernel
theorem dX8_putText_21 : decode cX8_putText 21 = .ok (.iinc 2 1, 3) := by decide +kernel
theorem dX8_putText_24 : decode cX8_putText 24 = .ok (.goto (-22), 3) := by decide +kernel
theorem dX8_putText_27 : decode cX8_putText 27 = .ok (.return_, 1) := by decide +kernel
theorem dX8_take_0 : decode cX8_take 0 = .ok (.aload_n 0, 1) := by decide +kernel
theorem dX8_take_1 : decode cX8_take 1 = .ok (.getfield 17, 3) := by decide +kernel
theorem dX8_take_4 : decode cX8_take 4 = .ok (.ifCond .ne 5, 3) := by decide +kernel
theorem dX8_take_7 : decode cX8_take 7 = .ok (.lconst 0, 1) := by decide +kernel
theorem dX8_take_8 : decode cX8_take 8 = .ok (.lreturn, 1) := by decide +kernel
theorem dX8_take_9 : decode cX8_take 9 = .ok (.aload_n 0, 1) := by decide +kernel
theorem dX8_take_10 : decode cX8_take 10 = .ok (.getfield 13, 3) := by decide +kernel
theorem dX8_take_13 : decode cX8_take 13 = .ok (.aload_n 0, 1) := by decide +kernel
theorem dX8_take_14 : decode cX8_take 14 = .ok (.getfield 21, 3) := by decide +kernel
theorem dX8_take_17 : decode cX8_take 17 = .ok (.laload, 1) := by decide +kernel
theorem dX8_take_18 : decode cX8_take 18 = .ok (.lstore_n 1, 1) := by decide +kernel
theorem dX8_take_19 : decode cX8_take 19 = .ok (.aload_n 0, 1) := by decide +kernel
theorem dX8_take_20 : decode cX8_take 20 = .ok (.aload_n 0, 1) := by decide +kernel
theorem dX8_take_21 : decode cX8_take 21 = .ok (.getfield 21, 3) := by decide +kernel
theorem dX8_take_24 : decode cX8_take 24 = .ok (.iconst 1, 1) := by decide +kernel
theorem dX8_take_25 : decode cX8_take 25 = .ok (.iadd, 1) := by decide +kernel
theorem dX8_take_26 : decode cX8_take 26 = .ok (.aload_n 0, 1) := by decide +kernel
theorem dX8_take_27 : decode cX8_take 27 = .ok (.getfield 13, 3) := by decide +kernel
theorem dX8_take_30 : decode cX8_take 30 = .ok (.arraylength, 1) := by decide +kernel
theorem dX8_take_31 : decode cX8_take 31 = .ok (.irem, 1) := by decide +kernel
theorem dX8_take_32 : decode cX8_take 32 = .ok (.putfield 21, 3) := by decide +kernel
theorem dX8_take_35 : decode cX8_take 35 = .ok (.aload_n 0, 1) := by decide +kernel
theorem dX8_take_36 : decode cX8_take 36 = .ok (.dup, 1) := by decide +kernel
theorem dX8_take_37 : decode cX8_take 37 = .ok (.getfield 17, 3) := by decide +kernel
theorem dX8_take_40 : decode cX8_take 40 = .ok (.iconst 1, 1) := by decide +kernel
theorem dX8_take_41 : decode cX8_take 41 = .ok (.isub, 1) := by decide +kernel
theorem dX8_take_42 : decode cX8_take 42 = .ok (.putfield 17, 3) := by decide +kernel
theorem dX8_take_45 : decode cX8_take 45 = .ok (.lload_n 1, 1) := by decide +kernel
theorem dX8_take_46 : decode cX8_take 46 = .ok (.lreturn, 1) := by decide +kernel
