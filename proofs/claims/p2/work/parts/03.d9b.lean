theorem dX9_need_0 : decode cX9_need 0 = .ok (.aload_n 0, 1) := by decide +kernel
theorem dX9_need_1 : decode cX9_need 1 = .ok (.getfield 9, 3) := by decide +kernel
theorem dX9_need_4 : decode cX9_need 4 = .ok (.aload_n 0, 1) := by decide +kernel
theorem dX9_need_5 : decode cX9_need 5 = .ok (.getfield 106, 3) := by decide +kernel
theorem dX9_need_8 : decode cX9_need 8 = .ok (.iaload, 1) := by decide +kernel
theorem dX9_need_9 : decode cX9_need 9 = .ok (.iload_n 1, 1) := by decide +kernel
theorem dX9_need_10 : decode cX9_need 10 = .ok (.if_icmp .ne 20, 3) := by decide +kernel
theorem dX9_need_13 : decode cX9_need 13 = .ok (.iload_n 1, 1) := by decide +kernel
theorem dX9_need_14 : decode cX9_need 14 = .ok (.ifCond .eq 16, 3) := by decide +kernel
theorem dX9_need_17 : decode cX9_need 17 = .ok (.aload_n 0, 1) := by decide +kernel
theorem dX9_need_18 : decode cX9_need 18 = .ok (.dup, 1) := by decide +kernel
theorem dX9_need_19 : decode cX9_need 19 = .ok (.getfield 106, 3) := by decide +kernel
theorem dX9_need_22 : decode cX9_need 22 = .ok (.iconst 1, 1) := by decide +kernel
theorem dX9_need_23 : decode cX9_need 23 = .ok (.iadd, 1) := by decide +kernel
theorem dX9_need_24 : decode cX9_need 24 = .ok (.putfield 106, 3) := by decide +kernel
theorem dX9_need_27 : decode cX9_need 27 = .ok (.goto 17, 3) := by decide +kernel
theorem dX9_need_30 : decode cX9_need 30 = .ok (.aload_n 0, 1) := by decide +kernel
theorem dX9_need_31 : decode cX9_need 31 = .ok (.iconst 1, 1) := by decide +kernel
theorem dX9_need_32 : decode cX9_need 32 = .ok (.aload_n 0, 1) := by decide +kernel
theorem dX9_need_33 : decode cX9_need 33 = .ok (.getfield 15, 3) := by decide +kernel
theorem dX9_need_36 : decode cX9_need 36 = .ok (.aload_n 0, 1) := by decide +kernel
theorem dX9_need_37 : decode cX9_need 37 = .ok (.getfield 106, 3) := by decide +kernel
theorem dX9_need_40 : decode cX9_need 40 = .ok (.iaload, 1) := by decide +kernel
theorem dX9_need_41 : decode cX9_need 41 = .ok (.invokevirtual 114, 3) := by decide +kernel
theorem dX9_need_44 : decode cX9_need 44 = .ok (.return_, 1) := by decide +kernel
theorem dX9_read_0 : decode cX9_read 0 = .ok (.aload_n 0, 1) := by decide +kernel
theorem dX9_read_1 : decode cX9_read 1 = .ok (.getfield 78, 3) := by decide +kernel
theorem dX9_read_4 : decode cX9_read 4 = .ok (.iconst 0, 1) := by decide +kernel
theorem dX9_read_5 : decode cX9_read 5 = .ok (.aload_n 0, 1) := by decide +kernel
theorem dX9_read_6 : decode cX9_read 6 = .ok (.getfield 48, 3) := by decide +kernel
theorem dX9_read_9 : decode cX9_read 9 = .ok (.iconst 0, 1) := by decide +kernel
theorem dX9_read_10 : decode cX9_read 10 = .ok (.sipush 256, 3) := by decide +kernel
theorem dX9_read_13 : decode cX9_read 13 = .ok (.invokestatic 83, 3) := by decide +kernel
theorem dX9_read_16 : decode cX9_read 16 = .ok (.aload_n 0, 1) := by decide +kernel
theorem dX9_read_17 : decode cX9_read 17 = .ok (.bipush 20, 2) := by decide +kernel
theorem dX9_read_19 : decode cX9_read 19 = .ok (.putfield 89, 3) := by decide +kernel
theorem dX9_read_22 : decode cX9_read 22 = .ok (.aload_n 0, 1) := by decide +kernel
theorem dX9_read_23 : decode cX9_read 23 = .ok (.iconst 0, 1) := by decide +kernel
theorem dX9_read_24 : decode cX9_read 24 = .ok (.putfield 92, 3) := by decide +kernel
theorem dX9_read_27 : decode cX9_read 27 = .ok (.aload_n 0, 1) := by decide +kernel
theorem dX9_read_28 : decode cX9_read 28 = .ok (.iconst 0, 1) := by decide +kernel
theorem dX9_read_29 : decode cX9_read 29 = .ok (.putfield 95, 3) := by decide +kernel
theorem dX9_read_32 : decode cX9_read 32 = .ok (.aload_n 0, 1) := by decide +kernel
theorem dX9_read_33 : decode cX9_read 33 = .ok (.iconst (-1), 1) := by decide +kernel
theorem dX9_read_34 : decode cX9_read 34 = .ok (.putfield 28, 3) := by decide +kernel
theorem dX9_read_37 : decode cX9_read 37 = .ok (.iconst 0, 1) := by decide +kernel
theorem dX9_read_38 : decode cX9_read 38 = .ok (.istore_n 2, 1) := by decide +kernel
theorem dX9_read_39 : decode cX9_read 39 = .ok (.iconst 0, 1) := by decide +kernel
theorem dX9_read_40 : decode cX9_read 40 = .ok (.istore_n 3, 1) := by decide +kernel
theorem dX9_read_41 : decode cX9_read 41 = .ok (.iload_n 3, 1) := by decide +kernel
theorem dX9_read_42 : decode cX9_read 42 = .ok (.iload_n 1, 1) := by decide +kernel
theorem dX9_read_43 : decode cX9_read 43 = .ok (.if_icmp .ge 21, 3) := by decide +kernel
theorem dX9_read_46 : decode cX9_read 46 = .ok (.iload_n 2, 1) := by decide +kernel
theorem dX9_read_47 : decode cX9_read 47 = .ok (.iload_n 1, 1) := by decide +kernel
theorem dX9_read_48 : decode cX9_read 48 = .ok (.if_icmp .ge 16, 3) := by decide +kernel
theorem dX9_read_51 : decode cX9_read 51 = .ok (.aload_n 0, 1) := by decide +kernel
theorem dX9_read_52 : decode cX9_read 52 = .ok (.iload_n 2, 1) := by decide +kernel
theorem dX9_read_53 : decode cX9_read 53 = .ok (.iload_n 1, 1) := by decide +kernel
theorem dX9_read_54 : decode cX9_read 54 = .ok (.invokevirtual 98, 3) := by decide +kernel
theorem dX9_read_57 : decode cX9_read 57 = .ok (.istore_n 2, 1) := by decide +kernel
theorem dX9_read_58 : decode cX9_read 58 = .ok (.iinc 3 1, 3) := by decide +kernel
theorem dX9_read_61 : decode cX9_read 61 = .ok (.goto (-20), 3) := by decide +kernel
theorem dX9_read_64 : decode cX9_read 64 = .ok (.aload_n 0, 1) := by decide +kernel
theorem dX9_read_65 : decode cX9_read 65 = .ok (.iconst 0, 1) := by decide +kernel
theorem dX9_read_66 : decode cX9_read 66 = .ok (.iload_n 1, 1) := by decide +kernel
theorem dX9_read_67 : decode cX9_read 67 = .ok (.iconst 0, 1) := by decide +kernel
theorem dX9_read_68 : decode cX9_read 68 = .ok (.invokevirtual 102, 3) := by decide +kernel
theorem dX9_read_71 : decode cX9_read 71 = .ok (.aload_n 0, 1) := by decide +kernel
theorem dX9_read_72 : decode cX9_read 72 = .ok (.iconst 0, 1) := by decide +kernel
theorem dX9_read_73 : decode cX9_read 73 = .ok (.putfield 106, 3) := by decide +kernel
theorem dX9_read_76 : decode cX9_read 76 = .ok (.return_, 1) := by decide +kernel
theorem dX9_readComment_0 : decode cX9_readComment 0 = .ok (.iload_n 1, 1) := by decide +kernel
theorem dX9_readComment_1 : decode cX9_readComment 1 = .ok (.istore_n 3, 1) := by decide +kernel
theorem dX9_readComment_2 : decode cX9_readComment 2 = .ok (.iload_n 3, 1) := by decide +kernel
theorem dX9_readComment_3 : decode cX9_readComment 3 = .ok (.iload_n 2, 1) := by decide +kernel
theorem dX9_readComment_4 : decode cX9_readComment 4 = .ok (.if_icmp .ge 63, 3) := by decide +kernel
theorem dX9_readComment_7 : decode cX9_readComment 7 = .ok (.aload_n 0, 1) := by decide +kernel
theorem dX9_readComment_8 : decode cX9_readComment 8 = .ok (.getfield 32, 3) := by decide +kernel
theorem dX9_readComment_11 : decode cX9_readComment 11 = .ok (.iload_n 3, 1) := by decide +kernel
theorem dX9_readComment_12 : decode cX9_readComment 12 = .ok (.baload, 1) := by decide +kernel
theorem dX9_readComment_13 : decode cX9_readComment 13 = .ok (.istore 4, 2) := by decide +kernel
theorem dX9_readComment_15 : decode cX9_readComment 15 = .ok (.iload 4, 2) := by decide +kernel
theorem dX9_readComment_17 : decode cX9_readComment 17 = .ok (.bipush 10, 2) := by decide +kernel
theorem dX9_readComment_19 : decode cX9_readComment 19 = .ok (.if_icmp .ne 7, 3) := by decide +kernel
theorem dX9_readComment_22 : decode cX9_readComment 22 = .ok (.iload_n 3, 1) := by decide +kernel
theorem dX9_readComment_23 : decode cX9_readComment 23 = .ok (.iconst 1, 1) := by decide +kernel
theorem dX9_readComment_24 : decode cX9_readComment 24 = .ok (.iadd, 1) := by decide +kernel
theorem dX9_readComment_25 : decode cX9_readComment 25 = .ok (.ireturn, 1) := by decide +kernel
theorem dX9_readComment_26 : decode cX9_readComment 26 = .ok (.iload 4, 2) := by decide +kernel
theorem dX9_readComment_28 : decode cX9_readComment 28 = .ok (.bipush 9, 2) := by decide +kernel
theorem dX9_readComment_30 : decode cX9_readComment 30 = .ok (.if_icmp .eq 31, 3) := by decide +kernel
theorem dX9_readComment_33 : decode cX9_readComment 33 = .ok (.iload 4, 2) := by decide +kernel
theorem dX9_readComment_35 : decode cX9_readComment 35 = .ok (.bipush 13, 2) := by decide +kernel
theorem dX9_readComment_37 : decode cX9_readComment 37 = .ok (.if_icmp .eq 24, 3) := by decide +kernel
theorem dX9_readComment_40 : decode cX9_readComment 40 = .ok (.iload 4, 2) := by decide +kernel
theorem dX9_readComment_42 : decode cX9_readComment 42 = .ok (.bipush 32, 2) := by decide +kernel
theorem dX9_readComment_44 : decode cX9_readComment 44 = .ok (.if_icmp .lt 10, 3) := by decide +kernel
theorem dX9_readComment_47 : decode cX9_readComment 47 = .ok (.iload 4, 2) := by decide +kernel
theorem dX9_readComment_49 : decode cX9_readComment 49 = .ok (.bipush 126, 2) := by decide +kernel
theorem dX9_readComment_51 : decode cX9_readComment 51 = .ok (.if_icmp .le 10, 3) := by decide +kernel
theorem dX9_readComment_54 : decode cX9_readComment 54 = .ok (.aload_n 0, 1) := by decide +kernel
theorem dX9_readComment_55 : decode cX9_readComment 55 = .ok (.iload_n 3, 1) := by decide +kernel
theorem dX9_readComment_56 : decode cX9_readComment 56 = .ok (.iload_n 2, 1) := by decide +kernel
theorem dX9_readComment_57 : decode cX9_readComment 57 = .ok (.invokevirtual 140, 3) := by decide +kernel
theorem dX9_readComment_60 : decode cX9_readComment 60 = .ok (.ireturn, 1) := by decide +kernel
theorem dX9_readComment_61 : decode cX9_readComment 61 = .ok (.iinc 3 1, 3) := by decide +kernel
theorem dX9_readComment_64 : decode cX9_readComment 64 = .ok (.goto (-62), 3) := by decide +kernel
theorem dX9_readComment_67 : decode cX9_readComment 67 = .ok (.iload_n 2, 1) := by decide +kernel
theorem dX9_readComment_68 : decode cX9_readComment 68 = .ok (.ireturn, 1) := by decide +kernel
theorem dX9_readLife_0 : decode cX9_readLife 0 = .ok (.iload_n 1, 1) := by decide +kernel
theorem dX9_readLife_1 : decode cX9_readLife 1 = .ok (.iconst 1, 1) := by decide +kernel
theorem dX9_readLife_2 : decode cX9_readLife 2 = .ok (.iadd, 1) := by decide +kernel
theorem dX9_readLife_3 : decode cX9_readLife 3 = .ok (.iload_n 2, 1) := by decide +kernel
theorem dX9_readLife_4 : decode cX9_readLife 4 = .ok (.if_icmp .ge 28, 3) := by decide +kernel
theorem dX9_readLife_7 : decode cX9_readLife 7 = .ok (.aload_n 0, 1) := by decide +kernel
theorem dX9_readLife_8 : decode cX9_readLife 8 = .ok (.getfield 32, 3) := by decide +kernel
theorem dX9_readLife_11 : decode cX9_readLife 11 = .ok (.iload_n 1, 1) := by decide +kernel
theorem dX9_readLife_12 : decode cX9_readLife 12 = .ok (.iconst 1, 1) := by decide +kernel
theorem dX9_readLife_13 : decode cX9_readLife 13 = .ok (.iadd, 1) := by decide +kernel
theorem dX9_readLife_14 : decode cX9_readLife 14 = .ok (.baload, 1) := by decide +kernel
theorem dX9_readLife_15 : decode cX9_readLife 15 = .ok (.invokestatic 121, 3) := by decide +kernel
theorem dX9_readLife_18 : decode cX9_readLife 18 = .ok (.ifCond .eq 14, 3) := by decide +kernel
theorem dX9_readLife_21 : decode cX9_readLife 21 = .ok (.aload_n 0, 1) := by decide +kernel
theorem dX9_readLife_22 : decode cX9_readLife 22 = .ok (.iload_n 1, 1) := by decide +kernel
theorem dX9_readLife_23 : decode cX9_readLife 23 = .ok (.iconst 1, 1) := by decide +kernel
theorem dX9_readLife_24 : decode cX9_readLife 24 = .ok (.iadd, 1) := by decide +kernel
theorem dX9_readLife_25 : decode cX9_readLife 25 = .ok (.iload_n 2, 1) := by decide +kernel
theorem dX9_readLife_26 : decode cX9_readLife 26 = .ok (.invokevirtual 143, 3) := by decide +kernel
theorem dX9_readLife_29 : decode cX9_readLife 29 = .ok (.goto 4, 3) := by decide +kernel
theorem dX9_readLife_32 : decode cX9_readLife 32 = .ok (.iload_n 1, 1) := by decide +kernel
theorem dX9_readLife_33 : decode cX9_readLife 33 = .ok (.istore_n 3, 1) := by decide +kernel
theorem dX9_readLife_34 : decode cX9_readLife 34 = .ok (.iload_n 3, 1) := by decide +kernel
theorem dX9_readLife_35 : decode cX9_readLife 35 = .ok (.iload_n 1, 1) := by decide +kernel
theorem dX9_readLife_36 : decode cX9_readLife 36 = .ok (.isub, 1) := by decide +kernel
theorem dX9_readLife_37 : decode cX9_readLife 37 = .ok (.iconst 1, 1) := by decide +kernel
theorem dX9_readLife_38 : decode cX9_readLife 38 = .ok (.isub, 1) := by decide +kernel
theorem dX9_readLife_39 : decode cX9_readLife 39 = .ok (.istore 4, 2) := by decide +kernel
theorem dX9_readLife_41 : decode cX9_readLife 41 = .ok (.iload 4, 2) := by decide +kernel
theorem dX9_readLife_43 : decode cX9_readLife 43 = .ok (.iconst 1, 1) := by decide +kernel
theorem dX9_readLife_44 : decode cX9_readLife 44 = .ok (.if_icmp .lt 10, 3) := by decide +kernel
theorem dX9_readLife_47 : decode cX9_readLife 47 = .ok (.iload 4, 2) := by decide +kernel
theorem dX9_readLife_49 : decode cX9_readLife 49 = .ok (.bipush 20, 2) := by decide +kernel
theorem dX9_readLife_51 : decode cX9_readLife 51 = .ok (.if_icmp .le 10, 3) := by decide +kernel
theorem dX9_readLife_54 : decode cX9_readLife 54 = .ok (.aload_n 0, 1) := by decide +kernel
theorem dX9_readLife_55 : decode cX9_readLife 55 = .ok (.iload_n 1, 1) := by decide +kernel
theorem dX9_readLife_56 : decode cX9_readLife 56 = .ok (.iload_n 2, 1) := by decide +kernel
theorem dX9_readLife_57 : decode cX9_readLife 57 = .ok (.invokevirtual 140, 3) := by decide +kernel
theorem dX9_readLife_60 : decode cX9_readLife 60 = .ok (.ireturn, 1) := by decide +kernel
theorem dX9_readLife_61 : decode cX9_readLife 61 = .ok (.aload_n 0, 1) := by decide +kernel
theorem dX9_readLife_62 : decode cX9_readLife 62 = .ok (.aload_n 0, 1) := by decide +kernel
theorem dX9_readLife_63 : decode cX9_readLife 63 = .ok (.getfield 32, 3) := by decide +kernel
theorem dX9_readLife_66 : decode cX9_readLife 66 = .ok (.iload_n 1, 1) := by decide +kernel
theorem dX9_readLife_67 : decode cX9_readLife 67 = .ok (.iconst 1, 1) := by decide +kernel
theorem dX9_readLife_68 : decode cX9_readLife 68 = .ok (.iadd, 1) := by decide +kernel
theorem dX9_readLife_69 : decode cX9_readLife 69 = .ok (.iload 4, 2) := by decide +kernel
theorem dX9_readLife_71 : decode cX9_readLife 71 = .ok (.invokevirtual 69, 3) := by decide +kernel
theorem dX9_readLife_74 : decode cX9_readLife 74 = .ok (.istore 5, 2) := by decide +kernel
theorem dX9_readLife_76 : decode cX9_readLife 76 = .ok (.iload 5, 2) := by decide +kernel
theorem dX9_readLife_78 : decode cX9_readLife 78 = .ok (.bipush 19, 2) := by decide +kernel
theorem dX9_readLife_80 : decode cX9_readLife 80 = .ok (.if_icmp .ge 10, 3) := by decide +kernel
theorem dX9_readLife_83 : decode cX9_readLife 83 = .ok (.aload_n 0, 1) := by decide +kernel
theorem dX9_readLife_84 : decode cX9_readLife 84 = .ok (.iload_n 1, 1) := by decide +kernel
theorem dX9_readLife_85 : decode cX9_readLife 85 = .ok (.iload_n 2, 1) := by decide +kernel
theorem dX9_readLife_86 : decode cX9_readLife 86 = .ok (.invokevirtual 140, 3) := by decide +kernel
theorem dX9_readLife_89 : decode cX9_readLife 89 = .ok (.ireturn, 1) := by decide +kernel
theorem dX9_readLife_90 : decode cX9_readLife 90 = .ok (.aload_n 0, 1) := by decide +kernel
theorem dX9_readLife_91 : decode cX9_readLife 91 = .ok (.iconst 3, 1) := by decide +kernel
theorem dX9_readLife_92 : decode cX9_readLife 92 = .ok (.iload_n 1, 1) := by decide +kernel
theorem dX9_readLife_93 : decode cX9_readLife 93 = .ok (.iload 5, 2) := by decide +kernel
theorem dX9_readLife_95 : decode cX9_readLife 95 = .ok (.invokevirtual 102, 3) := by decide +kernel
theorem dX9_readLife_98 : decode cX9_readLife 98 = .ok (.iload_n 3, 1) := by decide +kernel
theorem dX9_readLife_99 : decode cX9_readLife 99 = .ok (.ireturn, 1) := by decide +kernel
theorem dX9_readNumber_0 : decode cX9_readNumber 0 = .ok (.lconst 0, 1) := by decide +kernel
theorem dX9_readNumber_1 : decode cX9_readNumber 1 = .ok (.lstore_n 3, 1) := by decide +kernel
theorem dX9_readNumber_2 : decode cX9_readNumber 2 = .ok (.iload_n 1, 1) := by decide +kernel
theorem dX9_readNumber_3 : decode cX9_readNumber 3 = .ok (.istore 5, 2) := by decide +kernel
theorem dX9_readNumber_5 : decode cX9_readNumber 5 = .ok (.iload_n 1, 1) := by decide +kernel
theorem dX9_readNumber_6 : decode cX9_readNumber 6 = .ok (.istore 6, 2) := by decide +kernel
theorem dX9_readNumber_8 : decode cX9_readNumber 8 = .ok (.iload 6, 2) := by decide +kernel
theorem dX9_readNumber_10 : decode cX9_readNumber 10 = .ok (.iload_n 2, 1) := by decide +kernel
theorem dX9_readNumber_11 : decode cX9_readNumber 11 = .ok (.if_icmp .ge 73, 3) := by decide +kernel
theorem dX9_readNumber_14 : decode cX9_readNumber 14 = .ok (.aload_n 0, 1) := by decide +kernel
theorem dX9_readNumber_15 : decode cX9_readNumber 15 = .ok (.getfield 32, 3) := by decide +kernel
theorem dX9_readNumber_18 : decode cX9_readNumber 18 = .ok (.iload 6, 2) := by decide +kernel
theorem dX9_readNumber_20 : decode cX9_readNumber 20 = .ok (.baload, 1) := by decide +kernel
theorem dX9_readNumber_21 : decode cX9_readNumber 21 = .ok (.invokestatic 128, 3) := by decide +kernel
theorem dX9_readNumber_24 : decode cX9_readNumber 24 = .ok (.ifCond .eq 60, 3) := by decide +kernel
theorem dX9_readNumber_27 : decode cX9_readNumber 27 = .ok (.aload_n 0, 1) := by decide +kernel
theorem dX9_readNumber_28 : decode cX9_readNumber 28 = .ok (.getfield 32, 3) := by decide +kernel
theorem dX9_readNumber_31 : decode cX9_readNumber 31 = .ok (.iload 6, 2) := by decide +kernel
theorem dX9_readNumber_33 : decode cX9_readNumber 33 = .ok (.baload, 1) := by decide +kernel
theorem dX9_readNumber_34 : decode cX9_readNumber 34 = .ok (.bipush 48, 2) := by decide +kernel
theorem dX9_readNumber_36 : decode cX9_readNumber 36 = .ok (.isub, 1) := by decide +kernel
theorem dX9_readNumber_37 : decode cX9_readNumber 37 = .ok (.istore 7, 2) := by decide +kernel
theorem dX9_readNumber_39 : decode cX9_readNumber 39 = .ok (.lload_n 3, 1) := by decide +kernel
theorem dX9_readNumber_40 : decode cX9_readNumber 40 = .ok (.ldc2_w 146, 3) := by decide +kernel
theorem dX9_readNumber_43 : decode cX9_readNumber 43 = .ok (.iload 7, 2) := by decide +kernel
theorem dX9_readNumber_45 : decode cX9_readNumber 45 = .ok (.i2l, 1) := by decide +kernel
theorem dX9_readNumber_46 : decode cX9_readNumber 46 = .ok (.lsub, 1) := by decide +kernel
theorem dX9_readNumber_47 : decode cX9_readNumber 47 = .ok (.ldc2_w 148, 3) := by decide +kernel
theorem dX9_readNumber_50 : decode cX9_readNumber 50 = .ok (.ldiv, 1) := by decide +kernel
theorem dX9_readNumber_51 : decode cX9_readNumber 51 = .ok (.lcmp, 1) := by decide +kernel
theorem dX9_readNumber_52 : decode cX9_readNumber 52 = .ok (.ifCond .le 10, 3) := by decide +kernel
theorem dX9_readNumber_55 : decode cX9_readNumber 55 = .ok (.aload_n 0, 1) := by decide +kernel
theorem dX9_readNumber_56 : decode cX9_readNumber 56 = .ok (.iload_n 1, 1) := by decide +kernel
theorem dX9_readNumber_57 : decode cX9_readNumber 57 = .ok (.iload_n 2, 1) := by decide +kernel
theorem dX9_readNumber_58 : decode cX9_readNumber 58 = .ok (.invokevirtual 140, 3) := by decide +kernel
theorem dX9_readNumber_61 : decode cX9_readNumber 61 = .ok (.ireturn, 1) := by decide +kernel
theorem dX9_readNumber_62 : decode cX9_readNumber 62 = .ok (.lload_n 3, 1) := by decide +kernel
theorem dX9_readNumber_63 : decode cX9_readNumber 63 = .ok (.ldc2_w 148, 3) := by decide +kernel
theorem dX9_readNumber_66 : decode cX9_readNumber 66 = .ok (.lmul, 1) := by decide +kernel
theorem dX9_readNumber_67 : decode cX9_readNumber 67 = .ok (.iload 7, 2) := by decide +kernel
theorem dX9_readNumber_69 : decode cX9_readNumber 69 = .ok (.i2l, 1) := by decide +kernel
theorem dX9_readNumber_70 : decode cX9_readNumber 70 = .ok (.ladd, 1) := by decide +kernel
theorem dX9_readNumber_71 : decode cX9_readNumber 71 = .ok (.lstore_n 3, 1) := by decide +kernel
theorem dX9_readNumber_72 : decode cX9_readNumber 72 = .ok (.iload 6, 2) := by decide +kernel
theorem dX9_readNumber_74 : decode cX9_readNumber 74 = .ok (.iconst 1, 1) := by decide +kernel
theorem dX9_readNumber_75 : decode cX9_readNumber 75 = .ok (.iadd, 1) := by decide +kernel
theorem dX9_readNumber_76 : decode cX9_readNumber 76 = .ok (.istore 5, 2) := by decide +kernel
theorem dX9_readNumber_78 : decode cX9_readNumber 78 = .ok (.iinc 6 1, 3) := by decide +kernel
theorem dX9_readNumber_81 : decode cX9_readNumber 81 = .ok (.goto (-73), 3) := by decide +kernel
theorem dX9_readNumber_84 : decode cX9_readNumber 84 = .ok (.iload 5, 2) := by decide +kernel
theorem dX9_readNumber_86 : decode cX9_readNumber 86 = .ok (.iload_n 2, 1) := by decide +kernel
theorem dX9_readNumber_87 : decode cX9_readNumber 87 = .ok (.if_icmp .ge 23, 3) := by decide +kernel
theorem dX9_readNumber_90 : decode cX9_readNumber 90 = .ok (.aload_n 0, 1) := by decide +kernel
theorem dX9_readNumber_91 : decode cX9_readNumber 91 = .ok (.getfield 32, 3) := by decide +kernel
theorem dX9_readNumber_94 : decode cX9_readNumber 94 = .ok (.iload 5, 2) := by decide +kernel
theorem dX9_readNumber_96 : decode cX9_readNumber 96 = .ok (.baload, 1) := by decide +kernel
theorem dX9_readNumber_97 : decode cX9_readNumber 97 = .ok (.invokestatic 121, 3) := by decide +kernel
theorem dX9_readNumber_100 : decode cX9_readNumber 100 = .ok (.ifCond .eq 10, 3) := by decide +kernel
theorem dX9_readNumber_103 : decode cX9_readNumber 103 = .ok (.aload_n 0, 1) := by decide +kernel
theorem dX9_readNumber_104 : decode cX9_readNumber 104 = .ok (.iload_n 1, 1) := by decide +kernel
theorem dX9_readNumber_105 : decode cX9_readNumber 105 = .ok (.iload_n 2, 1) := by decide +kernel
theorem dX9_readNumber_106 : decode cX9_readNumber 106 = .ok (.invokevirtual 140, 3) := by decide +kernel
theorem dX9_readNumber_109 : decode cX9_readNumber 109 = .ok (.ireturn, 1) := by decide +kernel
theorem dX9_readNumber_110 : decode cX9_readNumber 110 = .ok (.aload_n 0, 1) := by decide +kernel
theorem dX9_readNumber_111 : decode cX9_readNumber 111 = .ok (.getfield 21, 3) := by decide +kernel
theorem dX9_readNumber_114 : decode cX9_readNumber 114 = .ok (.aload_n 0, 1) := by decide +kernel
theorem dX9_readNumber_115 : decode cX9_readNumber 115 = .ok (.getfield 92, 3) := by decide +kernel
theorem dX9_readNumber_118 : decode cX9_readNumber 118 = .ok (.lload_n 3, 1) := by decide +kernel
theorem dX9_readNumber_119 : decode cX9_readNumber 119 = .ok (.lastore, 1) := by decide +kernel
theorem dX9_readNumber_120 : decode cX9_readNumber 120 = .ok (.aload_n 0, 1) := by decide +kernel
theorem dX9_readNumber_121 : decode cX9_readNumber 121 = .ok (.iconst 4, 1) := by decide +kernel
theorem dX9_readNumber_122 : decode cX9_readNumber 122 = .ok (.iload_n 1, 1) := by decide +kernel
theorem dX9_readNumber_123 : decode cX9_readNumber 123 = .ok (.iconst 0, 1) := by decide +kernel
theorem dX9_readNumber_124 : decode cX9_readNumber 124 = .ok (.invokevirtual 102, 3) := by decide +kernel
theorem dX9_readNumber_127 : decode cX9_readNumber 127 = .ok (.iload 5, 2) := by decide +kernel
theorem dX9_readNumber_129 : decode cX9_readNumber 129 = .ok (.ireturn, 1) := by decide +kernel
theorem dX9_readSign_0 : decode cX9_readSign 0 = .ok (.aload_n 0, 1) := by decide +kernel
theorem dX9_readSign_1 : decode cX9_readSign 1 = .ok (.getfield 32, 3) := by decide +kernel
theorem dX9_readSign_4 : decode cX9_readSign 4 = .ok (.iload_n 1, 1) := by decide +kernel
theorem dX9_readSign_5 : decode cX9_readSign 5 = .ok (.baload, 1) := by decide +kernel
theorem dX9_readSign_6 : decode cX9_readSign 6 = .ok (.istore_n 3, 1) := by decide +kernel
theorem dX9_readSign_7 : decode cX9_readSign 7 = .ok (.iconst 0, 1) := by decide +kernel
theorem dX9_readSign_8 : decode cX9_readSign 8 = .ok (.istore 4, 2) := by decide +kernel
theorem dX9_readSign_10 : decode cX9_readSign 10 = .ok (.iload 4, 2) := by decide +kernel
theorem dX9_readSign_12 : decode cX9_readSign 12 = .ok (.iconst 1, 1) := by decide +kernel
theorem dX9_readSign_13 : decode cX9_readSign 13 = .ok (.iadd, 1) := by decide +kernel
theorem dX9_readSign_14 : decode cX9_readSign 14 = .ok (.ldc 150, 2) := by decide +kernel
theorem dX9_readSign_16 : decode cX9_readSign 16 = .ok (.invokevirtual 59, 3) := by decide +kernel
theorem dX9_readSign_19 : decode cX9_readSign 19 = .ok (.if_icmp .ge 65, 3) := by decide +kernel
theorem dX9_readSign_22 : decode cX9_readSign 22 = .ok (.iload_n 1, 1) := by decide +kernel
theorem dX9_readSign_23 : decode cX9_readSign 23 = .ok (.iconst 1, 1) := by decide +kernel
theorem dX9_readSign_24 : decode cX9_readSign 24 = .ok (.iadd, 1) := by decide +kernel
theorem dX9_readSign_25 : decode cX9_readSign 25 = .ok (.iload_n 2, 1) := by decide +kernel
theorem dX9_readSign_26 : decode cX9_readSign 26 = .ok (.if_icmp .ge 58, 3) := by decide +kernel
theorem dX9_readSign_29 : decode cX9_readSign 29 = .ok (.ldc 150, 2) := by decide +kernel
theorem dX9_readSign_31 : decode cX9_readSign 31 = .ok (.iload 4, 2) := by decide +kernel
theorem dX9_readSign_33 : decode cX9_readSign 33 = .ok (.invokevirtual 65, 3) := by decide +kernel
theorem dX9_readSign_36 : decode cX9_readSign 36 = .ok (.iload_n 3, 1) := by decide +kernel
theorem dX9_readSign_37 : decode cX9_readSign 37 = .ok (.if_icmp .ne 41, 3) := by decide +kernel
theorem dX9_readSign_40 : decode cX9_readSign 40 = .ok (.ldc 150, 2) := by decide +kernel
theorem dX9_readSign_42 : decode cX9_readSign 42 = .ok (.iload 4, 2) := by decide +kernel
theorem dX9_readSign_44 : decode cX9_readSign 44 = .ok (.iconst 1, 1) := by decide +kernel
theorem dX9_readSign_45 : decode cX9_readSign 45 = .ok (.iadd, 1) := by decide +kernel
theorem dX9_readSign_46 : decode cX9_readSign 46 = .ok (.invokevirtual 65, 3) := by decide +kernel
theorem dX9_readSign_49 : decode cX9_readSign 49 = .ok (.aload_n 0, 1) := by decide +kernel
theorem dX9_readSign_50 : decode cX9_readSign 50 = .ok (.getfield 32, 3) := by decide +kernel
theorem dX9_readSign_53 : decode cX9_readSign 53 = .ok (.iload_n 1, 1) := by decide +kernel
theorem dX9_readSign_54 : decode cX9_readSign 54 = .ok (.iconst 1, 1) := by decide +kernel
theorem dX9_readSign_55 : decode cX9_readSign 55 = .ok (.iadd, 1) := by decide +kernel
theorem dX9_readSign_56 : decode cX9_readSign 56 = .ok (.baload, 1) := by decide +kernel
theorem dX9_readSign_57 : decode cX9_readSign 57 = .ok (.if_icmp .ne 21, 3) := by decide +kernel
theorem dX9_readSign_60 : decode cX9_readSign 60 = .ok (.aload_n 0, 1) := by decide +kernel
theorem dX9_readSign_61 : decode cX9_readSign 61 = .ok (.sipush 128, 3) := by decide +kernel
theorem dX9_readSign_64 : decode cX9_readSign 64 = .ok (.iload 4, 2) := by decide +kernel
theorem dX9_readSign_66 : decode cX9_readSign 66 = .ok (.iconst 2, 1) := by decide +kernel
theorem dX9_readSign_67 : decode cX9_readSign 67 = .ok (.idiv, 1) := by decide +kernel
theorem dX9_readSign_68 : decode cX9_readSign 68 = .ok (.iadd, 1) := by decide +kernel
theorem dX9_readSign_69 : decode cX9_readSign 69 = .ok (.iload_n 1, 1) := by decide +kernel
theorem dX9_readSign_70 : decode cX9_readSign 70 = .ok (.iconst 0, 1) := by decide +kernel
theorem dX9_readSign_71 : decode cX9_readSign 71 = .ok (.invokevirtual 102, 3) := by decide +kernel
theorem dX9_readSign_74 : decode cX9_readSign 74 = .ok (.iload_n 1, 1) := by decide +kernel
theorem dX9_readSign_75 : decode cX9_readSign 75 = .ok (.iconst 2, 1) := by decide +kernel
theorem dX9_readSign_76 : decode cX9_readSign 76 = .ok (.iadd, 1) := by decide +kernel
theorem dX9_readSign_77 : decode cX9_readSign 77 = .ok (.ireturn, 1) := by decide +kernel
theorem dX9_readSign_78 : decode cX9_readSign 78 = .ok (.iinc 4 2, 3) := by decide +kernel
theorem dX9_readSign_81 : decode cX9_readSign 81 = .ok (.goto (-71), 3) := by decide +kernel
theorem dX9_readSign_84 : decode cX9_readSign 84 = .ok (.iconst 0, 1) := by decide +kernel
theorem dX9_readSign_85 : decode cX9_readSign 85 = .ok (.istore 4, 2) := by decide +kernel
theorem dX9_readSign_87 : decode cX9_readSign 87 = .ok (.iload 4, 2) := by decide +kernel
theorem dX9_readSign_89 : decode cX9_readSign 89 = .ok (.ldc 152, 2) := by decide +kernel
theorem dX9_readSign_91 : decode cX9_readSign 91 = .ok (.invokevirtual 59, 3) := by decide +kernel
theorem dX9_readSign_94 : decode cX9_readSign 94 = .ok (.if_icmp .ge 31, 3) := by decide +kernel
theorem dX9_readSign_97 : decode cX9_readSign 97 = .ok (.ldc 152, 2) := by decide +kernel
theorem dX9_readSign_99 : decode cX9_readSign 99 = .ok (.iload 4, 2) := by decide +kernel
theorem dX9_readSign_101 : decode cX9_readSign 101 = .ok (.invokevirtual 65, 3) := by decide +kernel
theorem dX9_readSign_104 : decode cX9_readSign 104 = .ok (.iload_n 3, 1) := by decide +kernel
theorem dX9_readSign_105 : decode cX9_readSign 105 = .ok (.if_icmp .ne 14, 3) := by decide +kernel
theorem dX9_readSign_108 : decode cX9_readSign 108 = .ok (.aload_n 0, 1) := by decide +kernel
theorem dX9_readSign_109 : decode cX9_readSign 109 = .ok (.iload_n 3, 1) := by decide +kernel
theorem dX9_readSign_110 : decode cX9_readSign 110 = .ok (.iload_n 1, 1) := by decide +kernel
theorem dX9_readSign_111 : decode cX9_readSign 111 = .ok (.iconst 0, 1) := by decide +kernel
theorem dX9_readSign_112 : decode cX9_readSign 112 = .ok (.invokevirtual 102, 3) := by decide +kernel
theorem dX9_readSign_115 : decode cX9_readSign 115 = .ok (.iload_n 1, 1) := by decide +kernel
theorem dX9_readSign_116 : decode cX9_readSign 116 = .ok (.iconst 1, 1) := by decide +kernel
theorem dX9_readSign_117 : decode cX9_readSign 117 = .ok (.iadd, 1) := by decide +kernel
theorem dX9_readSign_118 : decode cX9_readSign 118 = .ok (.ireturn, 1) := by decide +kernel
theorem dX9_readSign_119 : decode cX9_readSign 119 = .ok (.iinc 4 1, 3) := by decide +kernel
theorem dX9_readSign_122 : decode cX9_readSign 122 = .ok (.goto (-35), 3) := by decide +kernel
theorem dX9_readSign_125 : decode cX9_readSign 125 = .ok (.aload_n 0, 1) := by decide +kernel
theorem dX9_readSign_126 : decode cX9_readSign 126 = .ok (.iload_n 1, 1) := by decide +kernel
theorem dX9_readSign_127 : decode cX9_readSign 127 = .ok (.iload_n 2, 1) := by decide +kernel
theorem dX9_readSign_128 : decode cX9_readSign 128 = .ok (.invokevirtual 140, 3) := by decide +kernel
theorem dX9_readSign_131 : decode cX9_readSign 131 = .ok (.ireturn, 1) := by decide +kernel
theorem dX9_readToken_0 : decode cX9_readToken 0 = .ok (.aload_n 0, 1) := by decide +kernel
theorem dX9_readToken_1 : decode cX9_readToken 1 = .ok (.getfield 32, 3) := by decide +kernel
theorem dX9_readToken_4 : decode cX9_readToken 4 = .ok (.iload_n 1, 1) := by decide +kernel
theorem dX9_readToken_5 : decode cX9_readToken 5 = .ok (.baload, 1) := by decide +kernel
theorem dX9_readToken_6 : decode cX9_readToken 6 = .ok (.istore_n 3, 1) := by decide +kernel
theorem dX9_readToken_7 : decode cX9_readToken 7 = .ok (.iload_n 3, 1) := by decide +kernel
theorem dX9_readToken_8 : decode cX9_readToken 8 = .ok (.bipush 9, 2) := by decide +kernel
theorem dX9_readToken_10 : decode cX9_readToken 10 = .ok (.if_icmp .eq 21, 3) := by decide +kernel
theorem dX9_readToken_13 : decode cX9_readToken 13 = .ok (.iload_n 3, 1) := by decide +kernel
theorem dX9_readToken_14 : decode cX9_readToken 14 = .ok (.bipush 10, 2) := by decide +kernel
theorem dX9_readToken_16 : decode cX9_readToken 16 = .ok (.if_icmp .eq 15, 3) := by decide +kernel
theorem dX9_readToken_19 : decode cX9_readToken 19 = .ok (.iload_n 3, 1) := by decide +kernel
theorem dX9_readToken_20 : decode cX9_readToken 20 = .ok (.bipush 13, 2) := by decide +kernel
theorem dX9_readToken_22 : decode cX9_readToken 22 = .ok (.if_icmp .eq 9, 3) := by decide +kernel
theorem dX9_readToken_25 : decode cX9_readToken 25 = .ok (.iload_n 3, 1) := by decide +kernel
theorem dX9_readToken_26 : decode cX9_readToken 26 = .ok (.bipush 32, 2) := by decide +kernel
theorem dX9_readToken_28 : decode cX9_readToken 28 = .ok (.if_icmp .ne 7, 3) := by decide +kernel
theorem dX9_readToken_31 : decode cX9_readToken 31 = .ok (.iload_n 1, 1) := by decide +kernel
theorem dX9_readToken_32 : decode cX9_readToken 32 = .ok (.iconst 1, 1) := by decide +kernel
theorem dX9_readToken_33 : decode cX9_readToken 33 = .ok (.iadd, 1) := by decide +kernel
theorem dX9_readToken_34 : decode cX9_readToken 34 = .ok (.ireturn, 1) := by decide +kernel
theorem dX9_readToken_35 : decode cX9_readToken 35 = .ok (.iload_n 3, 1) := by decide +kernel
theorem dX9_readToken_36 : decode cX9_readToken 36 = .ok (.bipush 47, 2) := by decide +kernel
theorem dX9_readToken_38 : decode cX9_readToken 38 = .ok (.if_icmp .ne 30, 3) := by decide +kernel
theorem dX9_readToken_41 : decode cX9_readToken 41 = .ok (.iload_n 1, 1) := by decide +kernel
theorem dX9_readToken_42 : decode cX9_readToken 42 = .ok (.iconst 1, 1) := by decide +kernel
theorem dX9_readToken_43 : decode cX9_readToken 43 = .ok (.iadd, 1) := by decide +kernel
theorem dX9_readToken_44 : decode cX9_readToken 44 = .ok (.iload_n 2, 1) := by decide +kernel
theorem dX9_readToken_45 : decode cX9_readToken 45 = .ok (.if_icmp .ge 23, 3) := by decide +kernel
theorem dX9_readToken_48 : decode cX9_readToken 48 = .ok (.aload_n 0, 1) := by decide +kernel
theorem dX9_readToken_49 : decode cX9_readToken 49 = .ok (.getfield 32, 3) := by decide +kernel
theorem dX9_readToken_52 : decode cX9_readToken 52 = .ok (.iload_n 1, 1) := by decide +kernel
theorem dX9_readToken_53 : decode cX9_readToken 53 = .ok (.iconst 1, 1) := by decide +kernel
theorem dX9_readToken_54 : decode cX9_readToken 54 = .ok (.iadd, 1) := by decide +kernel
theorem dX9_readToken_55 : decode cX9_readToken 55 = .ok (.baload, 1) := by decide +kernel
theorem dX9_readToken_56 : decode cX9_readToken 56 = .ok (.bipush 47, 2) := by decide +kernel
theorem dX9_readToken_58 : decode cX9_readToken 58 = .ok (.if_icmp .ne 10, 3) := by decide +kernel
theorem dX9_readToken_61 : decode cX9_readToken 61 = .ok (.aload_n 0, 1) := by decide +kernel
theorem dX9_readToken_62 : decode cX9_readToken 62 = .ok (.iload_n 1, 1) := by decide +kernel
theorem dX9_readToken_63 : decode cX9_readToken 63 = .ok (.iload_n 2, 1) := by decide +kernel
theorem dX9_readToken_64 : decode cX9_readToken 64 = .ok (.invokevirtual 118, 3) := by decide +kernel
theorem dX9_readToken_67 : decode cX9_readToken 67 = .ok (.ireturn, 1) := by decide +kernel
theorem dX9_readToken_68 : decode cX9_readToken 68 = .ok (.iload_n 3, 1) := by decide +kernel
theorem dX9_readToken_69 : decode cX9_readToken 69 = .ok (.invokestatic 121, 3) := by decide +kernel
theorem dX9_readToken_72 : decode cX9_readToken 72 = .ok (.ifCond .eq 10, 3) := by decide +kernel
theorem dX9_readToken_75 : decode cX9_readToken 75 = .ok (.aload_n 0, 1) := by decide +kernel
theorem dX9_readToken_76 : decode cX9_readToken 76 = .ok (.iload_n 1, 1) := by decide +kernel
theorem dX9_readToken_77 : decode cX9_readToken 77 = .ok (.iload_n 2, 1) := by decide +kernel
theorem dX9_readToken_78 : decode cX9_readToken 78 = .ok (.invokevirtual 125, 3) := by decide +kernel
theorem dX9_readToken_81 : decode cX9_readToken 81 = .ok (.ireturn, 1) := by decide +kernel
theorem dX9_readToken_82 : decode cX9_readToken 82 = .ok (.iload_n 3, 1) := by decide +kernel
theorem dX9_readToken_83 : decode cX9_readToken 83 = .ok (.invokestatic 128, 3) := by decide +kernel
theorem dX9_readToken_86 : decode cX9_readToken 86 = .ok (.ifCond .eq 10, 3) := by decide +kernel
theorem dX9_readToken_89 : decode cX9_readToken 89 = .ok (.aload_n 0, 1) := by decide +kernel
theorem dX9_readToken_90 : decode cX9_readToken 90 = .ok (.iload_n 1, 1) := by decide +kernel
theorem dX9_readToken_91 : decode cX9_readToken 91 = .ok (.iload_n 2, 1) := by decide +kernel
theorem dX9_readToken_92 : decode cX9_readToken 92 = .ok (.invokevirtual 131, 3) := by decide +kernel
theorem dX9_readToken_95 : decode cX9_readToken 95 = .ok (.ireturn, 1) := by decide +kernel
theorem dX9_readToken_96 : decode cX9_readToken 96 = .ok (.iload_n 3, 1) := by decide +kernel
theorem dX9_readToken_97 : decode cX9_readToken 97 = .ok (.bipush 39, 2) := by decide +kernel
theorem dX9_readToken_99 : decode cX9_readToken 99 = .ok (.if_icmp .ne 12, 3) := by decide +kernel
theorem dX9_readToken_102 : decode cX9_readToken 102 = .ok (.aload_n 0, 1) := by decide +kernel
theorem dX9_readToken_103 : decode cX9_readToken 103 = .ok (.iload_n 1, 1) := by decide +kernel
theorem dX9_readToken_104 : decode cX9_readToken 104 = .ok (.iload_n 2, 1) := by decide +kernel
theorem dX9_readToken_105 : decode cX9_readToken 105 = .ok (.invokevirtual 134, 3) := by decide +kernel
theorem dX9_readToken_108 : decode cX9_readToken 108 = .ok (.goto 9, 3) := by decide +kernel
theorem dX9_readToken_111 : decode cX9_readToken 111 = .ok (.aload_n 0, 1) := by decide +kernel
theorem dX9_readToken_112 : decode cX9_readToken 112 = .ok (.iload_n 1, 1) := by decide +kernel
theorem dX9_readToken_113 : decode cX9_readToken 113 = .ok (.iload_n 2, 1) := by decide +kernel
theorem dX9_readToken_114 : decode cX9_readToken 114 = .ok (.invokevirtual 137, 3) := by decide +kernel
theorem dX9_readToken_117 : decode cX9_readToken 117 = .ok (.ireturn, 1) := by decide +kernel
theorem dX9_readWord_0 : decode cX9_readWord 0 = .ok (.aload_n 0, 1) := by decide +kernel
theorem dX9_readWord_1 : decode cX9_readWord 1 = .ok (.iload_n 1, 1) := by decide +kernel
theorem dX9_readWord_2 : decode cX9_readWord 2 = .ok (.iload_n 2, 1) := by decide +kernel
theorem dX9_readWord_3 : decode cX9_readWord 3 = .ok (.invokevirtual 143, 3) := by decide +kernel
theorem dX9_readWord_6 : decode cX9_readWord 6 = .ok (.istore_n 3, 1) := by decide +kernel
theorem dX9_readWord_7 : decode cX9_readWord 7 = .ok (.iload_n 3, 1) := by decide +kernel
theorem dX9_readWord_8 : decode cX9_readWord 8 = .ok (.iload_n 1, 1) := by decide +kernel
theorem dX9_readWord_9 : decode cX9_readWord 9 = .ok (.isub, 1) := by decide +kernel
theorem dX9_readWord_10 : decode cX9_readWord 10 = .ok (.bipush 20, 2) := by decide +kernel
theorem dX9_readWord_12 : decode cX9_readWord 12 = .ok (.if_icmp .le 10, 3) := by decide +kernel
theorem dX9_readWord_15 : decode cX9_readWord 15 = .ok (.aload_n 0, 1) := by decide +kernel
theorem dX9_readWord_16 : decode cX9_readWord 16 = .ok (.iload_n 1, 1) := by decide +kernel
theorem dX9_readWord_17 : decode cX9_readWord 17 = .ok (.iload_n 2, 1) := by decide +kernel
theorem dX9_readWord_18 : decode cX9_readWord 18 = .ok (.invokevirtual 140, 3) := by decide +kernel
theorem dX9_readWord_21 : decode cX9_readWord 21 = .ok (.ireturn, 1) := by decide +kernel
theorem dX9_readWord_22 : decode cX9_readWord 22 = .ok (.aload_n 0, 1) := by decide +kernel
theorem dX9_readWord_23 : decode cX9_readWord 23 = .ok (.aload_n 0, 1) := by decide +kernel
theorem dX9_readWord_24 : decode cX9_readWord 24 = .ok (.getfield 32, 3) := by decide +kernel
theorem dX9_readWord_27 : decode cX9_readWord 27 = .ok (.iload_n 1, 1) := by decide +kernel
theorem dX9_readWord_28 : decode cX9_readWord 28 = .ok (.iload_n 3, 1) := by decide +kernel
theorem dX9_readWord_29 : decode cX9_readWord 29 = .ok (.iload_n 1, 1) := by decide +kernel
theorem dX9_readWord_30 : decode cX9_readWord 30 = .ok (.isub, 1) := by decide +kernel
theorem dX9_readWord_31 : decode cX9_readWord 31 = .ok (.invokevirtual 69, 3) := by decide +kernel
theorem dX9_readWord_34 : decode cX9_readWord 34 = .ok (.istore 4, 2) := by decide +kernel
theorem dX9_readWord_36 : decode cX9_readWord 36 = .ok (.aload_n 0, 1) := by decide +kernel
theorem dX9_readWord_37 : decode cX9_readWord 37 = .ok (.iload 4, 2) := by decide +kernel
theorem dX9_readWord_39 : decode cX9_readWord 39 = .ok (.bipush 19, 2) := by decide +kernel
theorem dX9_readWord_41 : decode cX9_readWord 41 = .ok (.if_icmp .ge 10, 3) := by decide +kernel
theorem dX9_readWord_44 : decode cX9_readWord 44 = .ok (.iconst 5, 1) := by decide +kernel
theorem dX9_readWord_45 : decode cX9_readWord 45 = .ok (.iload 4, 2) := by decide +kernel
theorem dX9_readWord_47 : decode cX9_readWord 47 = .ok (.iadd, 1) := by decide +kernel
theorem dX9_readWord_48 : decode cX9_readWord 48 = .ok (.goto 4, 3) := by decide +kernel
theorem dX9_readWord_51 : decode cX9_readWord 51 = .ok (.iconst 2, 1) := by decide +kernel
theorem dX9_readWord_52 : decode cX9_readWord 52 = .ok (.iload_n 1, 1) := by decide +kernel
theorem dX9_readWord_53 : decode cX9_readWord 53 = .ok (.iload 4, 2) := by decide +kernel
theorem dX9_readWord_55 : decode cX9_readWord 55 = .ok (.invokevirtual 102, 3) := by decide +kernel
theorem dX9_readWord_58 : decode cX9_readWord 58 = .ok (.iload_n 3, 1) := by decide +kernel
theorem dX9_readWord_59 : decode cX9_readWord 59 = .ok (.ireturn, 1) := by decide +kernel
theorem dX9_step_0 : decode cX9_step 0 = .ok (.aload_n 0, 1) := by decide +kernel
theorem dX9_step_1 : decode cX9_step 1 = .ok (.aload_n 0, 1) := by decide +kernel
theorem dX9_step_2 : decode cX9_step 2 = .ok (.getfield 106, 3) := by decide +kernel
theorem dX9_step_5 : decode cX9_step 5 = .ok (.iload_n 1, 1) := by decide +kernel
theorem dX9_step_6 : decode cX9_step 6 = .ok (.iadd, 1) := by decide +kernel
theorem dX9_step_7 : decode cX9_step 7 = .ok (.aload_n 0, 1) := by decide +kernel
theorem dX9_step_8 : decode cX9_step 8 = .ok (.getfield 92, 3) := by decide +kernel
theorem dX9_step_11 : decode cX9_step 11 = .ok (.iconst 1, 1) := by decide +kernel
theorem dX9_step_12 : decode cX9_step 12 = .ok (.isub, 1) := by decide +kernel
theorem dX9_step_13 : decode cX9_step 13 = .ok (.invokestatic 109, 3) := by decide +kernel
theorem dX9_step_16 : decode cX9_step 16 = .ok (.putfield 106, 3) := by decide +kernel
theorem dX9_step_19 : decode cX9_step 19 = .ok (.return_, 1) := by decide +kernel
theorem dX9_take_0 : decode cX9_take 0 = .ok (.aload_n 0, 1) := by decide +kernel
theorem dX9_take_1 : decode cX9_take 1 = .ok (.getfield 9, 3) := by decide +kernel
theorem dX9_take_4 : decode cX9_take 4 = .ok (.aload_n 0, 1) := by decide +kernel
theorem dX9_take_5 : decode cX9_take 5 = .ok (.getfield 106, 3) := by decide +kernel
theorem dX9_take_8 : decode cX9_take 8 = .ok (.iaload, 1) := by decide +kernel
theorem dX9_take_9 : decode cX9_take 9 = .ok (.iload_n 1, 1) := by decide +kernel
theorem dX9_take_10 : decode cX9_take 10 = .ok (.if_icmp .ne 7, 3) := by decide +kernel
theorem dX9_take_13 : decode cX9_take 13 = .ok (.iload_n 1, 1) := by decide +kernel
theorem dX9_take_14 : decode cX9_take 14 = .ok (.ifCond .ne 5, 3) := by decide +kernel
theorem dX9_take_17 : decode cX9_take 17 = .ok (.iconst 0, 1) := by decide +kernel
theorem dX9_take_18 : decode cX9_take 18 = .ok (.ireturn, 1) := by decide +kernel
theorem dX9_take_19 : decode cX9_take 19 = .ok (.aload_n 0, 1) := by decide +kernel
theorem dX9_take_20 : decode cX9_take 20 = .ok (.dup, 1) := by decide +kernel
theorem dX9_take_21 : decode cX9_take 21 = .ok (.getfield 106, 3) := by decide +kernel
theorem dX9_take_24 : decode cX9_take 24 = .ok (.iconst 1, 1) := by decide +kernel
theorem dX9_take_25 : decode cX9_take 25 = .ok (.iadd, 1) := by decide +kernel
theorem dX9_take_26 : decode cX9_take 26 = .ok (.putfield 106, 3) := by decide +kernel
theorem dX9_take_29 : decode cX9_take 29 = .ok (.iconst 1, 1) := by decide +kernel
theorem dX9_take_30 : decode cX9_take 30 = .ok (.ireturn, 1) := by decide +kernel
theorem dX9_where_0 : decode cX9_where 0 = .ok (.aload_n 0, 1) := by decide +kernel
theorem dX9_where_1 : decode cX9_where 1 = .ok (.getfield 15, 3) := by decide +kernel
theorem dX9_where_4 : decode cX9_where 4 = .ok (.aload_n 0, 1) := by decide +kernel
theorem dX9_where_5 : decode cX9_where 5 = .ok (.getfield 106, 3) := by decide +kernel
theorem dX9_where_8 : decode cX9_where 8 = .ok (.iaload, 1) := by decide +kernel
theorem dX9_where_9 : decode cX9_where 9 = .ok (.ireturn, 1) := by decide +kernel
theorem dX9_wordEnd_0 : decode cX9_wordEnd 0 = .ok (.iload_n 1, 1) := by decide +kernel
theorem dX9_wordEnd_1 : decode cX9_wordEnd 1 = .ok (.istore_n 3, 1) := by decide +kernel
theorem dX9_wordEnd_2 : decode cX9_wordEnd 2 = .ok (.iload_n 3, 1) := by decide +kernel
theorem dX9_wordEnd_3 : decode cX9_wordEnd 3 = .ok (.iload_n 2, 1) := by decide +kernel
theorem dX9_wordEnd_4 : decode cX9_wordEnd 4 = .ok (.if_icmp .ge 33, 3) := by decide +kernel
theorem dX9_wordEnd_7 : decode cX9_wordEnd 7 = .ok (.aload_n 0, 1) := by decide +kernel
theorem dX9_wordEnd_8 : decode cX9_wordEnd 8 = .ok (.getfield 32, 3) := by decide +kernel
theorem dX9_wordEnd_11 : decode cX9_wordEnd 11 = .ok (.iload_n 3, 1) := by decide +kernel
theorem dX9_wordEnd_12 : decode cX9_wordEnd 12 = .ok (.baload, 1) := by decide +kernel
theorem dX9_wordEnd_13 : decode cX9_wordEnd 13 = .ok (.invokestatic 121, 3) := by decide +kernel
theorem dX9_wordEnd_16 : decode cX9_wordEnd 16 = .ok (.ifCond .ne 15, 3) := by decide +kernel
theorem dX9_wordEnd_19 : decode cX9_wordEnd 19 = .ok (.aload_n 0, 1) := by decide +kernel
theorem dX9_wordEnd_20 : decode cX9_wordEnd 20 = .ok (.getfield 32, 3) := by decide +kernel
theorem dX9_wordEnd_23 : decode cX9_wordEnd 23 = .ok (.iload_n 3, 1) := by decide +kernel
theorem dX9_wordEnd_24 : decode cX9_wordEnd 24 = .ok (.baload, 1) := by decide +kernel
theorem dX9_wordEnd_25 : decode cX9_wordEnd 25 = .ok (.invokestatic 128, 3) := by decide +kernel
theorem dX9_wordEnd_28 : decode cX9_wordEnd 28 = .ok (.ifCond .eq 9, 3) := by decide +kernel
theorem dX9_wordEnd_31 : decode cX9_wordEnd 31 = .ok (.iinc 3 1, 3) := by decide +kernel
theorem dX9_wordEnd_34 : decode cX9_wordEnd 34 = .ok (.goto (-32), 3) := by decide +kernel
theorem dX9_wordEnd_37 : decode cX9_wordEnd 37 = .ok (.iload_n 3, 1) := by decide +kernel
theorem dX9_wordEnd_38 : decode cX9_wordEnd 38 = .ok (.ireturn, 1) := by decide +kernel
