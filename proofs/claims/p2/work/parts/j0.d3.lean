theorem dX23_add_0 : decode cX23_add 0 = .ok (.aload_n 0, 1) := by decide +kernel
theorem dX23_add_1 : decode cX23_add 1 = .ok (.getfield 337, 3) := by decide +kernel
theorem dX23_add_4 : decode cX23_add 4 = .ok (.ifnonnull 18, 3) := by decide +kernel
theorem dX23_add_7 : decode cX23_add 7 = .ok (.aload_n 0, 1) := by decide +kernel
theorem dX23_add_8 : decode cX23_add 8 = .ok (.iconst 4, 1) := by decide +kernel
theorem dX23_add_9 : decode cX23_add 9 = .ok (.anewarray 295, 3) := by decide +kernel
theorem dX23_add_12 : decode cX23_add 12 = .ok (.putfield 337, 3) := by decide +kernel
theorem dX23_add_15 : decode cX23_add 15 = .ok (.aload_n 0, 1) := by decide +kernel
theorem dX23_add_16 : decode cX23_add 16 = .ok (.iconst 4, 1) := by decide +kernel
theorem dX23_add_17 : decode cX23_add 17 = .ok (.newarray .int, 2) := by decide +kernel
theorem dX23_add_19 : decode cX23_add 19 = .ok (.putfield 339, 3) := by decide +kernel
theorem dX23_add_22 : decode cX23_add 22 = .ok (.aload_n 0, 1) := by decide +kernel
theorem dX23_add_23 : decode cX23_add 23 = .ok (.getfield 342, 3) := by decide +kernel
theorem dX23_add_26 : decode cX23_add 26 = .ok (.aload_n 0, 1) := by decide +kernel
theorem dX23_add_27 : decode cX23_add 27 = .ok (.getfield 337, 3) := by decide +kernel
theorem dX23_add_30 : decode cX23_add 30 = .ok (.arraylength, 1) := by decide +kernel
theorem dX23_add_31 : decode cX23_add 31 = .ok (.if_icmp .ne 75, 3) := by decide +kernel
theorem dX23_add_34 : decode cX23_add 34 = .ok (.iconst 2, 1) := by decide +kernel
theorem dX23_add_35 : decode cX23_add 35 = .ok (.aload_n 0, 1) := by decide +kernel
theorem dX23_add_36 : decode cX23_add 36 = .ok (.getfield 342, 3) := by decide +kernel
theorem dX23_add_39 : decode cX23_add 39 = .ok (.imul, 1) := by decide +kernel
theorem dX23_add_40 : decode cX23_add 40 = .ok (.anewarray 295, 3) := by decide +kernel
theorem dX23_add_43 : decode cX23_add 43 = .ok (.astore_n 3, 1) := by decide +kernel
theorem dX23_add_44 : decode cX23_add 44 = .ok (.iconst 2, 1) := by decide +kernel
theorem dX23_add_45 : decode cX23_add 45 = .ok (.aload_n 0, 1) := by decide +kernel
theorem dX23_add_46 : decode cX23_add 46 = .ok (.getfield 342, 3) := by decide +kernel
theorem dX23_add_49 : decode cX23_add 49 = .ok (.imul, 1) := by decide +kernel
theorem dX23_add_50 : decode cX23_add 50 = .ok (.newarray .int, 2) := by decide +kernel
theorem dX23_add_52 : decode cX23_add 52 = .ok (.astore 4, 2) := by decide +kernel
theorem dX23_add_54 : decode cX23_add 54 = .ok (.iconst 0, 1) := by decide +kernel
theorem dX23_add_55 : decode cX23_add 55 = .ok (.istore 5, 2) := by decide +kernel
theorem dX23_add_57 : decode cX23_add 57 = .ok (.iload 5, 2) := by decide +kernel
theorem dX23_add_59 : decode cX23_add 59 = .ok (.aload_n 0, 1) := by decide +kernel
theorem dX23_add_60 : decode cX23_add 60 = .ok (.getfield 342, 3) := by decide +kernel
theorem dX23_add_63 : decode cX23_add 63 = .ok (.if_icmp .ge 32, 3) := by decide +kernel
theorem dX23_add_66 : decode cX23_add 66 = .ok (.aload_n 3, 1) := by decide +kernel
theorem dX23_add_67 : decode cX23_add 67 = .ok (.iload 5, 2) := by decide +kernel
theorem dX23_add_69 : decode cX23_add 69 = .ok (.aload_n 0, 1) := by decide +kernel
theorem dX23_add_70 : decode cX23_add 70 = .ok (.getfield 337, 3) := by decide +kernel
theorem dX23_add_73 : decode cX23_add 73 = .ok (.iload 5, 2) := by decide +kernel
theorem dX23_add_75 : decode cX23_add 75 = .ok (.aaload, 1) := by decide +kernel
theorem dX23_add_76 : decode cX23_add 76 = .ok (.aastore, 1) := by decide +kernel
theorem dX23_add_77 : decode cX23_add 77 = .ok (.aload 4, 2) := by decide +kernel
theorem dX23_add_79 : decode cX23_add 79 = .ok (.iload 5, 2) := by decide +kernel
theorem dX23_add_81 : decode cX23_add 81 = .ok (.aload_n 0, 1) := by decide +kernel
theorem dX23_add_82 : decode cX23_add 82 = .ok (.getfield 339, 3) := by decide +kernel
theorem dX23_add_85 : decode cX23_add 85 = .ok (.iload 5, 2) := by decide +kernel
theorem dX23_add_87 : decode cX23_add 87 = .ok (.iaload, 1) := by decide +kernel
theorem dX23_add_88 : decode cX23_add 88 = .ok (.iastore, 1) := by decide +kernel
theorem dX23_add_89 : decode cX23_add 89 = .ok (.iinc 5 1, 3) := by decide +kernel
theorem dX23_add_92 : decode cX23_add 92 = .ok (.goto (-35), 3) := by decide +kernel
theorem dX23_add_95 : decode cX23_add 95 = .ok (.aload_n 0, 1) := by decide +kernel
theorem dX23_add_96 : decode cX23_add 96 = .ok (.aload_n 3, 1) := by decide +kernel
theorem dX23_add_97 : decode cX23_add 97 = .ok (.putfield 337, 3) := by decide +kernel
theorem dX23_add_100 : decode cX23_add 100 = .ok (.aload_n 0, 1) := by decide +kernel
theorem dX23_add_101 : decode cX23_add 101 = .ok (.aload 4, 2) := by decide +kernel
theorem dX23_add_103 : decode cX23_add 103 = .ok (.putfield 339, 3) := by decide +kernel
theorem dX23_add_106 : decode cX23_add 106 = .ok (.aload_n 0, 1) := by decide +kernel
theorem dX23_add_107 : decode cX23_add 107 = .ok (.getfield 337, 3) := by decide +kernel
theorem dX23_add_110 : decode cX23_add 110 = .ok (.aload_n 0, 1) := by decide +kernel
theorem dX23_add_111 : decode cX23_add 111 = .ok (.getfield 342, 3) := by decide +kernel
theorem dX23_add_114 : decode cX23_add 114 = .ok (.aload_n 1, 1) := by decide +kernel
theorem dX23_add_115 : decode cX23_add 115 = .ok (.aastore, 1) := by decide +kernel
theorem dX23_add_116 : decode cX23_add 116 = .ok (.aload_n 0, 1) := by decide +kernel
theorem dX23_add_117 : decode cX23_add 117 = .ok (.getfield 339, 3) := by decide +kernel
theorem dX23_add_120 : decode cX23_add 120 = .ok (.aload_n 0, 1) := by decide +kernel
theorem dX23_add_121 : decode cX23_add 121 = .ok (.getfield 342, 3) := by decide +kernel
theorem dX23_add_124 : decode cX23_add 124 = .ok (.iload_n 2, 1) := by decide +kernel
theorem dX23_add_125 : decode cX23_add 125 = .ok (.iastore, 1) := by decide +kernel
theorem dX23_add_126 : decode cX23_add 126 = .ok (.aload_n 0, 1) := by decide +kernel
theorem dX23_add_127 : decode cX23_add 127 = .ok (.dup, 1) := by decide +kernel
theorem dX23_add_128 : decode cX23_add 128 = .ok (.getfield 342, 3) := by decide +kernel
theorem dX23_add_131 : decode cX23_add 131 = .ok (.iconst 1, 1) := by decide +kernel
theorem dX23_add_132 : decode cX23_add 132 = .ok (.iadd, 1) := by decide +kernel
theorem dX23_add_133 : decode cX23_add 133 = .ok (.putfield 342, 3) := by decide +kernel
theorem dX23_add_136 : decode cX23_add 136 = .ok (.return_, 1) := by decide +kernel
theorem dX23_isPlace_0 : decode cX23_isPlace 0 = .ok (.aload_n 0, 1) := by decide +kernel
theorem dX23_isPlace_1 : decode cX23_isPlace 1 = .ok (.astore_n 1, 1) := by decide +kernel
theorem dX23_isPlace_2 : decode cX23_isPlace 2 = .ok (.aload_n 1, 1) := by decide +kernel
theorem dX23_isPlace_3 : decode cX23_isPlace 3 = .ok (.ifnull 38, 3) := by decide +kernel
theorem dX23_isPlace_6 : decode cX23_isPlace 6 = .ok (.aload_n 1, 1) := by decide +kernel
theorem dX23_isPlace_7 : decode cX23_isPlace 7 = .ok (.getfield 330, 3) := by decide +kernel
theorem dX23_isPlace_10 : decode cX23_isPlace 10 = .ok (.bipush 7, 2) := by decide +kernel
theorem dX23_isPlace_12 : decode cX23_isPlace 12 = .ok (.if_icmp .eq 21, 3) := by decide +kernel
theorem dX23_isPlace_15 : decode cX23_isPlace 15 = .ok (.aload_n 1, 1) := by decide +kernel
theorem dX23_isPlace_16 : decode cX23_isPlace 16 = .ok (.getfield 330, 3) := by decide +kernel
theorem dX23_isPlace_19 : decode cX23_isPlace 19 = .ok (.bipush 14, 2) := by decide +kernel
theorem dX23_isPlace_21 : decode cX23_isPlace 21 = .ok (.if_icmp .eq 12, 3) := by decide +kernel
theorem dX23_isPlace_24 : decode cX23_isPlace 24 = .ok (.aload_n 1, 1) := by decide +kernel
theorem dX23_isPlace_25 : decode cX23_isPlace 25 = .ok (.getfield 330, 3) := by decide +kernel
theorem dX23_isPlace_28 : decode cX23_isPlace 28 = .ok (.bipush 11, 2) := by decide +kernel
theorem dX23_isPlace_30 : decode cX23_isPlace 30 = .ok (.if_icmp .ne 11, 3) := by decide +kernel
theorem dX23_isPlace_33 : decode cX23_isPlace 33 = .ok (.aload_n 1, 1) := by decide +kernel
theorem dX23_isPlace_34 : decode cX23_isPlace 34 = .ok (.getfield 331, 3) := by decide +kernel
theorem dX23_isPlace_37 : decode cX23_isPlace 37 = .ok (.astore_n 1, 1) := by decide +kernel
theorem dX23_isPlace_38 : decode cX23_isPlace 38 = .ok (.goto (-36), 3) := by decide +kernel
theorem dX23_isPlace_41 : decode cX23_isPlace 41 = .ok (.aload_n 1, 1) := by decide +kernel
theorem dX23_isPlace_42 : decode cX23_isPlace 42 = .ok (.ifnull 15, 3) := by decide +kernel
theorem dX23_isPlace_45 : decode cX23_isPlace 45 = .ok (.aload_n 1, 1) := by decide +kernel
theorem dX23_isPlace_46 : decode cX23_isPlace 46 = .ok (.getfield 330, 3) := by decide +kernel
theorem dX23_isPlace_49 : decode cX23_isPlace 49 = .ok (.iconst 2, 1) := by decide +kernel
theorem dX23_isPlace_50 : decode cX23_isPlace 50 = .ok (.if_icmp .ne 7, 3) := by decide +kernel
theorem dX23_isPlace_53 : decode cX23_isPlace 53 = .ok (.iconst 1, 1) := by decide +kernel
theorem dX23_isPlace_54 : decode cX23_isPlace 54 = .ok (.goto 4, 3) := by decide +kernel
theorem dX23_isPlace_57 : decode cX23_isPlace 57 = .ok (.iconst 0, 1) := by decide +kernel
theorem dX23_isPlace_58 : decode cX23_isPlace 58 = .ok (.ireturn, 1) := by decide +kernel
theorem dX23_levelOf_0 : decode cX23_levelOf 0 = .ok (.iload_n 0, 1) := by decide +kernel
theorem dX23_levelOf_1 : decode cX23_levelOf 1 = .ok (.bipush 52, 2) := by decide +kernel
theorem dX23_levelOf_3 : decode cX23_levelOf 3 = .ok (.if_icmp .ne 5, 3) := by decide +kernel
theorem dX23_levelOf_6 : decode cX23_levelOf 6 = .ok (.iconst 1, 1) := by decide +kernel
theorem dX23_levelOf_7 : decode cX23_levelOf 7 = .ok (.ireturn, 1) := by decide +kernel
theorem dX23_levelOf_8 : decode cX23_levelOf 8 = .ok (.iload_n 0, 1) := by decide +kernel
theorem dX23_levelOf_9 : decode cX23_levelOf 9 = .ok (.bipush 51, 2) := by decide +kernel
theorem dX23_levelOf_11 : decode cX23_levelOf 11 = .ok (.if_icmp .ne 5, 3) := by decide +kernel
theorem dX23_levelOf_14 : decode cX23_levelOf 14 = .ok (.iconst 2, 1) := by decide +kernel
theorem dX23_levelOf_15 : decode cX23_levelOf 15 = .ok (.ireturn, 1) := by decide +kernel
theorem dX23_levelOf_16 : decode cX23_levelOf 16 = .ok (.iload_n 0, 1) := by decide +kernel
theorem dX23_levelOf_17 : decode cX23_levelOf 17 = .ok (.bipush 45, 2) := by decide +kernel
theorem dX23_levelOf_19 : decode cX23_levelOf 19 = .ok (.if_icmp .lt 11, 3) := by decide +kernel
theorem dX23_levelOf_22 : decode cX23_levelOf 22 = .ok (.iload_n 0, 1) := by decide +kernel
theorem dX23_levelOf_23 : decode cX23_levelOf 23 = .ok (.bipush 50, 2) := by decide +kernel
theorem dX23_levelOf_25 : decode cX23_levelOf 25 = .ok (.if_icmp .gt 5, 3) := by decide +kernel
theorem dX23_levelOf_28 : decode cX23_levelOf 28 = .ok (.iconst 3, 1) := by decide +kernel
theorem dX23_levelOf_29 : decode cX23_levelOf 29 = .ok (.ireturn, 1) := by decide +kernel
theorem dX23_levelOf_30 : decode cX23_levelOf 30 = .ok (.iload_n 0, 1) := by decide +kernel
theorem dX23_levelOf_31 : decode cX23_levelOf 31 = .ok (.bipush 40, 2) := by decide +kernel
theorem dX23_levelOf_33 : decode cX23_levelOf 33 = .ok (.if_icmp .eq 9, 3) := by decide +kernel
theorem dX23_levelOf_36 : decode cX23_levelOf 36 = .ok (.iload_n 0, 1) := by decide +kernel
theorem dX23_levelOf_37 : decode cX23_levelOf 37 = .ok (.bipush 41, 2) := by decide +kernel
theorem dX23_levelOf_39 : decode cX23_levelOf 39 = .ok (.if_icmp .ne 7, 3) := by decide +kernel
theorem dX23_levelOf_42 : decode cX23_levelOf 42 = .ok (.iconst 4, 1) := by decide +kernel
theorem dX23_levelOf_43 : decode cX23_levelOf 43 = .ok (.goto 26, 3) := by decide +kernel
theorem dX23_levelOf_46 : decode cX23_levelOf 46 = .ok (.iload_n 0, 1) := by decide +kernel
theorem dX23_levelOf_47 : decode cX23_levelOf 47 = .ok (.bipush 42, 2) := by decide +kernel
theorem dX23_levelOf_49 : decode cX23_levelOf 49 = .ok (.if_icmp .eq 15, 3) := by decide +kernel
theorem dX23_levelOf_52 : decode cX23_levelOf 52 = .ok (.iload_n 0, 1) := by decide +kernel
theorem dX23_levelOf_53 : decode cX23_levelOf 53 = .ok (.bipush 43, 2) := by decide +kernel
theorem dX23_levelOf_55 : decode cX23_levelOf 55 = .ok (.if_icmp .eq 9, 3) := by decide +kernel
theorem dX23_levelOf_58 : decode cX23_levelOf 58 = .ok (.iload_n 0, 1) := by decide +kernel
theorem dX23_levelOf_59 : decode cX23_levelOf 59 = .ok (.bipush 44, 2) := by decide +kernel
theorem dX23_levelOf_61 : decode cX23_levelOf 61 = .ok (.if_icmp .ne 7, 3) := by decide +kernel
theorem dX23_levelOf_64 : decode cX23_levelOf 64 = .ok (.iconst 5, 1) := by decide +kernel
theorem dX23_levelOf_65 : decode cX23_levelOf 65 = .ok (.goto 4, 3) := by decide +kernel
theorem dX23_levelOf_68 : decode cX23_levelOf 68 = .ok (.iconst 0, 1) := by decide +kernel
theorem dX23_levelOf_69 : decode cX23_levelOf 69 = .ok (.ireturn, 1) := by decide +kernel
theorem dX23_chain_0 : decode cX23_chain 0 = .ok (.iload_n 1, 1) := by decide +kernel
theorem dX23_chain_1 : decode cX23_chain 1 = .ok (.iconst 5, 1) := by decide +kernel
theorem dX23_chain_2 : decode cX23_chain 2 = .ok (.if_icmp .le 10, 3) := by decide +kernel
theorem dX23_chain_5 : decode cX23_chain 5 = .ok (.aload_n 0, 1) := by decide +kernel
theorem dX23_chain_6 : decode cX23_chain 6 = .ok (.invokevirtual 343, 3) := by decide +kernel
theorem dX23_chain_9 : decode cX23_chain 9 = .ok (.goto 10, 3) := by decide +kernel
theorem dX23_chain_12 : decode cX23_chain 12 = .ok (.aload_n 0, 1) := by decide +kernel
theorem dX23_chain_13 : decode cX23_chain 13 = .ok (.iload_n 1, 1) := by decide +kernel
theorem dX23_chain_14 : decode cX23_chain 14 = .ok (.iconst 1, 1) := by decide +kernel
theorem dX23_chain_15 : decode cX23_chain 15 = .ok (.iadd, 1) := by decide +kernel
theorem dX23_chain_16 : decode cX23_chain 16 = .ok (.invokevirtual 333, 3) := by decide +kernel
theorem dX23_chain_19 : decode cX23_chain 19 = .ok (.astore_n 2, 1) := by decide +kernel
theorem dX23_chain_20 : decode cX23_chain 20 = .ok (.iload_n 1, 1) := by decide +kernel
theorem dX23_chain_21 : decode cX23_chain 21 = .ok (.iconst 5, 1) := by decide +kernel
theorem dX23_chain_22 : decode cX23_chain 22 = .ok (.if_icmp .le 5, 3) := by decide +kernel
theorem dX23_chain_25 : decode cX23_chain 25 = .ok (.aload_n 2, 1) := by decide +kernel
theorem dX23_chain_26 : decode cX23_chain 26 = .ok (.areturn, 1) := by decide +kernel
theorem dX23_chain_27 : decode cX23_chain 27 = .ok (.aconst_null, 1) := by decide +kernel
theorem dX23_chain_28 : decode cX23_chain 28 = .ok (.astore_n 3, 1) := by decide +kernel
theorem dX23_chain_29 : decode cX23_chain 29 = .ok (.aload_n 0, 1) := by decide +kernel
theorem dX23_chain_30 : decode cX23_chain 30 = .ok (.invokevirtual 89, 3) := by decide +kernel
theorem dX23_chain_33 : decode cX23_chain 33 = .ok (.ifCond .eq 102, 3) := by decide +kernel
theorem dX23_chain_36 : decode cX23_chain 36 = .ok (.aload_n 0, 1) := by decide +kernel
theorem dX23_chain_37 : decode cX23_chain 37 = .ok (.getfield 25, 3) := by decide +kernel
theorem dX23_chain_40 : decode cX23_chain 40 = .ok (.aload_n 0, 1) := by decide +kernel
theorem dX23_chain_41 : decode cX23_chain 41 = .ok (.getfield 86, 3) := by decide +kernel
theorem dX23_chain_44 : decode cX23_chain 44 = .ok (.iaload, 1) := by decide +kernel
theorem dX23_chain_45 : decode cX23_chain 45 = .ok (.invokestatic 346, 3) := by decide +kernel
theorem dX23_chain_48 : decode cX23_chain 48 = .ok (.iload_n 1, 1) := by decide +kernel
theorem dX23_chain_49 : decode cX23_chain 49 = .ok (.if_icmp .ne 86, 3) := by decide +kernel
theorem dX23_chain_52 : decode cX23_chain 52 = .ok (.aload_n 0, 1) := by decide +kernel
theorem dX23_chain_53 : decode cX23_chain 53 = .ok (.getfield 86, 3) := by decide +kernel
theorem dX23_chain_56 : decode cX23_chain 56 = .ok (.istore 4, 2) := by decide +kernel
theorem dX23_chain_58 : decode cX23_chain 58 = .ok (.aload_n 0, 1) := by decide +kernel
theorem dX23_chain_59 : decode cX23_chain 59 = .ok (.dup, 1) := by decide +kernel
theorem dX23_chain_60 : decode cX23_chain 60 = .ok (.getfield 86, 3) := by decide +kernel
theorem dX23_chain_63 : decode cX23_chain 63 = .ok (.iconst 1, 1) := by decide +kernel
theorem dX23_chain_64 : decode cX23_chain 64 = .ok (.iadd, 1) := by decide +kernel
theorem dX23_chain_65 : decode cX23_chain 65 = .ok (.putfield 86, 3) := by decide +kernel
theorem dX23_chain_68 : decode cX23_chain 68 = .ok (.aload_n 0, 1) := by decide +kernel
theorem dX23_chain_69 : decode cX23_chain 69 = .ok (.iload 4, 2) := by decide +kernel
theorem dX23_chain_71 : decode cX23_chain 71 = .ok (.invokevirtual 119, 3) := by decide +kernel
theorem dX23_chain_74 : decode cX23_chain 74 = .ok (.aload_n 0, 1) := by decide +kernel
theorem dX23_chain_75 : decode cX23_chain 75 = .ok (.iload_n 1, 1) := by decide +kernel
theorem dX23_chain_76 : decode cX23_chain 76 = .ok (.iconst 1, 1) := by decide +kernel
theorem dX23_chain_77 : decode cX23_chain 77 = .ok (.iadd, 1) := by decide +kernel
theorem dX23_chain_78 : decode cX23_chain 78 = .ok (.invokevirtual 333, 3) := by decide +kernel
theorem dX23_chain_81 : decode cX23_chain 81 = .ok (.astore 5, 2) := by decide +kernel
theorem dX23_chain_83 : decode cX23_chain 83 = .ok (.aload_n 0, 1) := by decide +kernel
theorem dX23_chain_84 : decode cX23_chain 84 = .ok (.dup, 1) := by decide +kernel
theorem dX23_chain_85 : decode cX23_chain 85 = .ok (.getfield 104, 3) := by decide +kernel
theorem dX23_chain_88 : decode cX23_chain 88 = .ok (.iconst 1, 1) := by decide +kernel
theorem dX23_chain_89 : decode cX23_chain 89 = .ok (.isub, 1) := by decide +kernel
theorem dX23_chain_90 : decode cX23_chain 90 = .ok (.putfield 104, 3) := by decide +kernel
theorem dX23_chain_93 : decode cX23_chain 93 = .ok (.aload_n 3, 1) := by decide +kernel
theorem dX23_chain_94 : decode cX23_chain 94 = .ok (.ifnonnull 30, 3) := by decide +kernel
theorem dX23_chain_97 : decode cX23_chain 97 = .ok (.new 295, 3) := by decide +kernel
theorem dX23_chain_100 : decode cX23_chain 100 = .ok (.dup, 1) := by decide +kernel
theorem dX23_chain_101 : decode cX23_chain 101 = .ok (.invokespecial 349, 3) := by decide +kernel
theorem dX23_chain_104 : decode cX23_chain 104 = .ok (.astore_n 3, 1) := by decide +kernel
theorem dX23_chain_105 : decode cX23_chain 105 = .ok (.aload_n 3, 1) := by decide +kernel
theorem dX23_chain_106 : decode cX23_chain 106 = .ok (.bipush 8, 2) := by decide +kernel
theorem dX23_chain_108 : decode cX23_chain 108 = .ok (.putfield 330, 3) := by decide +kernel
theorem dX23_chain_111 : decode cX23_chain 111 = .ok (.aload_n 3, 1) := by decide +kernel
theorem dX23_chain_112 : decode cX23_chain 112 = .ok (.aload_n 2, 1) := by decide +kernel
theorem dX23_chain_113 : decode cX23_chain 113 = .ok (.getfield 350, 3) := by decide +kernel
theorem dX23_chain_116 : decode cX23_chain 116 = .ok (.putfield 350, 3) := by decide +kernel
theorem dX23_chain_119 : decode cX23_chain 119 = .ok (.aload_n 3, 1) := by decide +kernel
theorem dX23_chain_120 : decode cX23_chain 120 = .ok (.aload_n 2, 1) := by decide +kernel
theorem dX23_chain_121 : decode cX23_chain 121 = .ok (.putfield 331, 3) := by decide +kernel
theorem dX23_chain_124 : decode cX23_chain 124 = .ok (.aload_n 3, 1) := by decide +kernel
theorem dX23_chain_125 : decode cX23_chain 125 = .ok (.aload 5, 2) := by decide +kernel
theorem dX23_chain_127 : decode cX23_chain 127 = .ok (.iload 4, 2) := by decide +kernel
theorem dX23_chain_129 : decode cX23_chain 129 = .ok (.invokestatic 351, 3) := by decide +kernel
theorem dX23_chain_132 : decode cX23_chain 132 = .ok (.goto (-103), 3) := by decide +kernel
theorem dX23_chain_135 : decode cX23_chain 135 = .ok (.aload_n 3, 1) := by decide +kernel
theorem dX23_chain_136 : decode cX23_chain 136 = .ok (.ifnonnull 7, 3) := by decide +kernel
theorem dX23_chain_139 : decode cX23_chain 139 = .ok (.aload_n 2, 1) := by decide +kernel
theorem dX23_chain_140 : decode cX23_chain 140 = .ok (.goto 4, 3) := by decide +kernel
theorem dX23_chain_143 : decode cX23_chain 143 = .ok (.aload_n 3, 1) := by decide +kernel
theorem dX23_chain_144 : decode cX23_chain 144 = .ok (.areturn, 1) := by decide +kernel
theorem dX23_unary_0 : decode cX23_unary 0 = .ok (.new 295, 3) := by decide +kernel
theorem dX23_unary_3 : decode cX23_unary 3 = .ok (.dup, 1) := by decide +kernel
theorem dX23_unary_4 : decode cX23_unary 4 = .ok (.invokespecial 349, 3) := by decide +kernel
theorem dX23_unary_7 : decode cX23_unary 7 = .ok (.astore_n 1, 1) := by decide +kernel
theorem dX23_unary_8 : decode cX23_unary 8 = .ok (.aload_n 0, 1) := by decide +kernel
theorem dX23_unary_9 : decode cX23_unary 9 = .ok (.invokevirtual 89, 3) := by decide +kernel
theorem dX23_unary_12 : decode cX23_unary 12 = .ok (.ifCond .ne 5, 3) := by decide +kernel
theorem dX23_unary_15 : decode cX23_unary 15 = .ok (.aload_n 1, 1) := by decide +kernel
theorem dX23_unary_16 : decode cX23_unary 16 = .ok (.areturn, 1) := by decide +kernel
theorem dX23_unary_17 : decode cX23_unary 17 = .ok (.aload_n 0, 1) := by decide +kernel
theorem dX23_unary_18 : decode cX23_unary 18 = .ok (.getfield 25, 3) := by decide +kernel
theorem dX23_unary_21 : decode cX23_unary 21 = .ok (.aload_n 0, 1) := by decide +kernel
theorem dX23_unary_22 : decode cX23_unary 22 = .ok (.getfield 86, 3) := by decide +kernel
theorem dX23_unary_25 : decode cX23_unary 25 = .ok (.iaload, 1) := by decide +kernel
theorem dX23_unary_26 : decode cX23_unary 26 = .ok (.istore_n 2, 1) := by decide +kernel
theorem dX23_unary_27 : decode cX23_unary 27 = .ok (.iload_n 2, 1) := by decide +kernel
theorem dX23_unary_28 : decode cX23_unary 28 = .ok (.bipush 53, 2) := by decide +kernel
theorem dX23_unary_30 : decode cX23_unary 30 = .ok (.if_icmp .eq 32, 3) := by decide +kernel
theorem dX23_unary_33 : decode cX23_unary 33 = .ok (.iload_n 2, 1) := by decide +kernel
theorem dX23_unary_34 : decode cX23_unary 34 = .ok (.bipush 41, 2) := by decide +kernel
theorem dX23_unary_36 : decode cX23_unary 36 = .ok (.if_icmp .eq 26, 3) := by decide +kernel
theorem dX23_unary_39 : decode cX23_unary 39 = .ok (.iload_n 2, 1) := by decide +kernel
theorem dX23_unary_40 : decode cX23_unary 40 = .ok (.bipush 42, 2) := by decide +kernel
theorem dX23_unary_42 : decode cX23_unary 42 = .ok (.if_icmp .eq 20, 3) := by decide +kernel
theorem dX23_unary_45 : decode cX23_unary 45 = .ok (.iload_n 2, 1) := by decide +kernel
theorem dX23_unary_46 : decode cX23_unary 46 = .ok (.bipush 55, 2) := by decide +kernel
theorem dX23_unary_48 : decode cX23_unary 48 = .ok (.if_icmp .eq 14, 3) := by decide +kernel
theorem dX23_unary_51 : decode cX23_unary 51 = .ok (.iload_n 2, 1) := by decide +kernel
theorem dX23_unary_52 : decode cX23_unary 52 = .ok (.bipush 23, 2) := by decide +kernel
theorem dX23_unary_54 : decode cX23_unary 54 = .ok (.if_icmp .eq 8, 3) := by decide +kernel
theorem dX23_unary_57 : decode cX23_unary 57 = .ok (.aload_n 0, 1) := by decide +kernel
theorem dX23_unary_58 : decode cX23_unary 58 = .ok (.invokevirtual 355, 3) := by decide +kernel
theorem dX23_unary_61 : decode cX23_unary 61 = .ok (.areturn, 1) := by decide +kernel
theorem dX23_unary_62 : decode cX23_unary 62 = .ok (.aload_n 1, 1) := by decide +kernel
theorem dX23_unary_63 : decode cX23_unary 63 = .ok (.aload_n 0, 1) := by decide +kernel
theorem dX23_unary_64 : decode cX23_unary 64 = .ok (.getfield 86, 3) := by decide +kernel
theorem dX23_unary_67 : decode cX23_unary 67 = .ok (.putfield 350, 3) := by decide +kernel
theorem dX23_unary_70 : decode cX23_unary 70 = .ok (.aload_n 1, 1) := by decide +kernel
theorem dX23_unary_71 : decode cX23_unary 71 = .ok (.iload_n 2, 1) := by decide +kernel
theorem dX23_unary_72 : decode cX23_unary 72 = .ok (.bipush 53, 2) := by decide +kernel
theorem dX23_unary_74 : decode cX23_unary 74 = .ok (.if_icmp .ne 8, 3) := by decide +kernel
theorem dX23_unary_77 : decode cX23_unary 77 = .ok (.bipush 9, 2) := by decide +kernel
theorem dX23_unary_79 : decode cX23_unary 79 = .ok (.goto 38, 3) := by decide +kernel
theorem dX23_unary_82 : decode cX23_unary 82 = .ok (.iload_n 2, 1) := by decide +kernel
theorem dX23_unary_83 : decode cX23_unary 83 = .ok (.bipush 41, 2) := by decide +kernel
theorem dX23_unary_85 : decode cX23_unary 85 = .ok (.if_icmp .ne 8, 3) := by decide +kernel
theorem dX23_unary_88 : decode cX23_unary 88 = .ok (.bipush 10, 2) := by decide +kernel
theorem dX23_unary_90 : decode cX23_unary 90 = .ok (.goto 27, 3) := by decide +kernel
theorem dX23_unary_93 : decode cX23_unary 93 = .ok (.iload_n 2, 1) := by decide +kernel
theorem dX23_unary_94 : decode cX23_unary 94 = .ok (.bipush 42, 2) := by decide +kernel
theorem dX23_unary_96 : decode cX23_unary 96 = .ok (.if_icmp .ne 8, 3) := by decide +kernel
theorem dX23_unary_99 : decode cX23_unary 99 = .ok (.bipush 11, 2) := by decide +kernel
theorem dX23_unary_101 : decode cX23_unary 101 = .ok (.goto 16, 3) := by decide +kernel
theorem dX23_unary_104 : decode cX23_unary 104 = .ok (.iload_n 2, 1) := by decide +kernel
theorem dX23_unary_105 : decode cX23_unary 105 = .ok (.bipush 55, 2) := by decide +kernel
theorem dX23_unary_107 : decode cX23_unary 107 = .ok (.if_icmp .ne 8, 3) := by decide +kernel
theorem dX23_unary_110 : decode cX23_unary 110 = .ok (.bipush 12, 2) := by decide +kernel
theorem dX23_unary_112 : decode cX23_unary 112 = .ok (.goto 5, 3) := by decide +kernel
theorem dX23_unary_115 : decode cX23_unary 115 = .ok (.bipush 13, 2) := by decide +kernel
theorem dX23_unary_117 : decode cX23_unary 117 = .ok (.putfield 330, 3) := by decide +kernel
theorem dX23_unary_120 : decode cX23_unary 120 = .ok (.aload_n 0, 1) := by decide +kernel
theorem dX23_unary_121 : decode cX23_unary 121 = .ok (.aload_n 0, 1) := by decide +kernel
theorem dX23_unary_122 : decode cX23_unary 122 = .ok (.getfield 86, 3) := by decide +kernel
theorem dX23_unary_125 : decode cX23_unary 125 = .ok (.invokevirtual 119, 3) := by decide +kernel
theorem dX23_unary_128 : decode cX23_unary 128 = .ok (.iload_n 2, 1) := by decide +kernel
theorem dX23_unary_129 : decode cX23_unary 129 = .ok (.bipush 55, 2) := by decide +kernel
theorem dX23_unary_131 : decode cX23_unary 131 = .ok (.if_icmp .ne 7, 3) := by decide +kernel
theorem dX23_unary_134 : decode cX23_unary 134 = .ok (.aload_n 0, 1) := by decide +kernel
theorem dX23_unary_135 : decode cX23_unary 135 = .ok (.invokevirtual 309, 3) := by decide +kernel
theorem dX23_unary_138 : decode cX23_unary 138 = .ok (.aload_n 0, 1) := by decide +kernel
theorem dX23_unary_139 : decode cX23_unary 139 = .ok (.dup, 1) := by decide +kernel
theorem dX23_unary_140 : decode cX23_unary 140 = .ok (.getfield 86, 3) := by decide +kernel
theorem dX23_unary_143 : decode cX23_unary 143 = .ok (.iconst 1, 1) := by decide +kernel
theorem dX23_unary_144 : decode cX23_unary 144 = .ok (.iadd, 1) := by decide +kernel
theorem dX23_unary_145 : decode cX23_unary 145 = .ok (.putfield 86, 3) := by decide +kernel
theorem dX23_unary_148 : decode cX23_unary 148 = .ok (.iload_n 2, 1) := by decide +kernel
theorem dX23_unary_149 : decode cX23_unary 149 = .ok (.bipush 55, 2) := by decide +kernel
theorem dX23_unary_151 : decode cX23_unary 151 = .ok (.if_icmp .ne 13, 3) := by decide +kernel
theorem dX23_unary_154 : decode cX23_unary 154 = .ok (.aload_n 1, 1) := by decide +kernel
theorem dX23_unary_155 : decode cX23_unary 155 = .ok (.aload_n 0, 1) := by decide +kernel
theorem dX23_unary_156 : decode cX23_unary 156 = .ok (.bipush 14, 2) := by decide +kernel
theorem dX23_unary_158 : decode cX23_unary 158 = .ok (.invokevirtual 125, 3) := by decide +kernel
theorem dX23_unary_161 : decode cX23_unary 161 = .ok (.putfield 358, 3) := by decide +kernel
theorem dX23_unary_164 : decode cX23_unary 164 = .ok (.aload_n 1, 1) := by decide +kernel
theorem dX23_unary_165 : decode cX23_unary 165 = .ok (.aload_n 0, 1) := by decide +kernel
theorem dX23_unary_166 : decode cX23_unary 166 = .ok (.invokevirtual 343, 3) := by decide +kernel
theorem dX23_unary_169 : decode cX23_unary 169 = .ok (.putfield 331, 3) := by decide +kernel
theorem dX23_unary_172 : decode cX23_unary 172 = .ok (.aload_n 0, 1) := by decide +kernel
theorem dX23_unary_173 : decode cX23_unary 173 = .ok (.dup, 1) := by decide +kernel
theorem dX23_unary_174 : decode cX23_unary 174 = .ok (.getfield 104, 3) := by decide +kernel
theorem dX23_unary_177 : decode cX23_unary 177 = .ok (.iconst 1, 1) := by decide +kernel
theorem dX23_unary_178 : decode cX23_unary 178 = .ok (.isub, 1) := by decide +kernel
theorem dX23_unary_179 : decode cX23_unary 179 = .ok (.putfield 104, 3) := by decide +kernel
theorem dX23_unary_182 : decode cX23_unary 182 = .ok (.aload_n 1, 1) := by decide +kernel
theorem dX23_unary_183 : decode cX23_unary 183 = .ok (.areturn, 1) := by decide +kernel
theorem dX23_suffixed_0 : decode cX23_suffixed 0 = .ok (.aload_n 0, 1) := by decide +kernel
theorem dX23_suffixed_1 : decode cX23_suffixed 1 = .ok (.invokevirtual 359, 3) := by decide +kernel
theorem dX23_suffixed_4 : decode cX23_suffixed 4 = .ok (.astore_n 1, 1) := by decide +kernel
theorem dX23_suffixed_5 : decode cX23_suffixed 5 = .ok (.iconst 0, 1) := by decide +kernel
theorem dX23_suffixed_6 : decode cX23_suffixed 6 = .ok (.istore_n 2, 1) := by decide +kernel
theorem dX23_suffixed_7 : decode cX23_suffixed 7 = .ok (.aload_n 0, 1) := by decide +kernel
theorem dX23_suffixed_8 : decode cX23_suffixed 8 = .ok (.invokevirtual 89, 3) := by decide +kernel
theorem dX23_suffixed_11 : decode cX23_suffixed 11 = .ok (.ifCond .eq 80, 3) := by decide +kernel
theorem dX23_suffixed_14 : decode cX23_suffixed 14 = .ok (.aload_n 0, 1) := by decide +kernel
theorem dX23_suffixed_15 : decode cX23_suffixed 15 = .ok (.bipush 56, 2) := by decide +kernel
theorem dX23_suffixed_17 : decode cX23_suffixed 17 = .ok (.invokevirtual 93, 3) := by decide +kernel
theorem dX23_suffixed_20 : decode cX23_suffixed 20 = .ok (.ifCond .eq 71, 3) := by decide +kernel
theorem dX23_suffixed_23 : decode cX23_suffixed 23 = .ok (.iload_n 2, 1) := by decide +kernel
theorem dX23_suffixed_24 : decode cX23_suffixed 24 = .ok (.bipush 16, 2) := by decide +kernel
theorem dX23_suffixed_26 : decode cX23_suffixed 26 = .ok (.if_icmp .ne 12, 3) := by decide +kernel
theorem dX23_suffixed_29 : decode cX23_suffixed 29 = .ok (.aload_n 0, 1) := by decide +kernel
theorem dX23_suffixed_30 : decode cX23_suffixed 30 = .ok (.iconst 2, 1) := by decide +kernel
theorem dX23_suffixed_31 : decode cX23_suffixed 31 = .ok (.aload_n 0, 1) := by decide +kernel
theorem dX23_suffixed_32 : decode cX23_suffixed 32 = .ok (.getfield 86, 3) := by decide +kernel
theorem dX23_suffixed_35 : decode cX23_suffixed 35 = .ok (.invokevirtual 96, 3) := by decide +kernel
theorem dX23_suffixed_38 : decode cX23_suffixed 38 = .ok (.iinc 2 1, 3) := by decide +kernel
theorem dX23_suffixed_41 : decode cX23_suffixed 41 = .ok (.aload_n 0, 1) := by decide +kernel
theorem dX23_suffixed_42 : decode cX23_suffixed 42 = .ok (.dup, 1) := by decide +kernel
theorem dX23_suffixed_43 : decode cX23_suffixed 43 = .ok (.getfield 86, 3) := by decide +kernel
theorem dX23_suffixed_46 : decode cX23_suffixed 46 = .ok (.iconst 1, 1) := by decide +kernel
theorem dX23_suffixed_47 : decode cX23_suffixed 47 = .ok (.iadd, 1) := by decide +kernel
theorem dX23_suffixed_48 : decode cX23_suffixed 48 = .ok (.putfield 86, 3) := by decide +kernel
theorem dX23_suffixed_51 : decode cX23_suffixed 51 = .ok (.new 295, 3) := by decide +kernel
theorem dX23_suffixed_54 : decode cX23_suffixed 54 = .ok (.dup, 1) := by decide +kernel
theorem dX23_suffixed_55 : decode cX23_suffixed 55 = .ok (.invokespecial 349, 3) := by decide +kernel
theorem dX23_suffixed_58 : decode cX23_suffixed 58 = .ok (.astore_n 3, 1) := by decide +kernel
theorem dX23_suffixed_59 : decode cX23_suffixed 59 = .ok (.aload_n 3, 1) := by decide +kernel
theorem dX23_suffixed_60 : decode cX23_suffixed 60 = .ok (.bipush 14, 2) := by decide +kernel
theorem dX23_suffixed_62 : decode cX23_suffixed 62 = .ok (.putfield 330, 3) := by decide +kernel
theorem dX23_suffixed_65 : decode cX23_suffixed 65 = .ok (.aload_n 3, 1) := by decide +kernel
theorem dX23_suffixed_66 : decode cX23_suffixed 66 = .ok (.aload_n 1, 1) := by decide +kernel
theorem dX23_suffixed_67 : decode cX23_suffixed 67 = .ok (.getfield 350, 3) := by decide +kernel
theorem dX23_suffixed_70 : decode cX23_suffixed 70 = .ok (.putfield 350, 3) := by decide +kernel
theorem dX23_suffixed_73 : decode cX23_suffixed 73 = .ok (.aload_n 3, 1) := by decide +kernel
theorem dX23_suffixed_74 : decode cX23_suffixed 74 = .ok (.aload_n 1, 1) := by decide +kernel
theorem dX23_suffixed_75 : decode cX23_suffixed 75 = .ok (.putfield 331, 3) := by decide +kernel
theorem dX23_suffixed_78 : decode cX23_suffixed 78 = .ok (.aload_n 3, 1) := by decide +kernel
theorem dX23_suffixed_79 : decode cX23_suffixed 79 = .ok (.aload_n 0, 1) := by decide +kernel
theorem dX23_suffixed_80 : decode cX23_suffixed 80 = .ok (.invokevirtual 150, 3) := by decide +kernel
theorem dX23_suffixed_83 : decode cX23_suffixed 83 = .ok (.putfield 362, 3) := by decide +kernel
theorem dX23_suffixed_86 : decode cX23_suffixed 86 = .ok (.aload_n 3, 1) := by decide +kernel
theorem dX23_suffixed_87 : decode cX23_suffixed 87 = .ok (.astore_n 1, 1) := by decide +kernel
theorem dX23_suffixed_88 : decode cX23_suffixed 88 = .ok (.goto (-81), 3) := by decide +kernel
theorem dX23_suffixed_91 : decode cX23_suffixed 91 = .ok (.aload_n 1, 1) := by decide +kernel
theorem dX23_suffixed_92 : decode cX23_suffixed 92 = .ok (.areturn, 1) := by decide +kernel
theorem dX23_list_0 : decode cX23_list 0 = .ok (.aload_n 0, 1) := by decide +kernel
theorem dX23_list_1 : decode cX23_list 1 = .ok (.invokevirtual 89, 3) := by decide +kernel
theorem dX23_list_4 : decode cX23_list 4 = .ok (.ifCond .eq 23, 3) := by decide +kernel
theorem dX23_list_7 : decode cX23_list 7 = .ok (.aload_n 0, 1) := by decide +kernel
theorem dX23_list_8 : decode cX23_list 8 = .ok (.bipush 61, 2) := by decide +kernel
theorem dX23_list_10 : decode cX23_list 10 = .ok (.invokevirtual 93, 3) := by decide +kernel
theorem dX23_list_13 : decode cX23_list 13 = .ok (.ifCond .eq 14, 3) := by decide +kernel
theorem dX23_list_16 : decode cX23_list 16 = .ok (.aload_n 0, 1) := by decide +kernel
theorem dX23_list_17 : decode cX23_list 17 = .ok (.aload_n 0, 1) := by decide +kernel
theorem dX23_list_18 : decode cX23_list 18 = .ok (.getfield 86, 3) := by decide +kernel
theorem dX23_list_21 : decode cX23_list 21 = .ok (.invokevirtual 119, 3) := by decide +kernel
theorem dX23_list_24 : decode cX23_list 24 = .ok (.goto 13, 3) := by decide +kernel
theorem dX23_list_27 : decode cX23_list 27 = .ok (.aload_n 0, 1) := by decide +kernel
theorem dX23_list_28 : decode cX23_list 28 = .ok (.dup, 1) := by decide +kernel
theorem dX23_list_29 : decode cX23_list 29 = .ok (.getfield 104, 3) := by decide +kernel
theorem dX23_list_32 : decode cX23_list 32 = .ok (.iconst 1, 1) := by decide +kernel
theorem dX23_list_33 : decode cX23_list 33 = .ok (.iadd, 1) := by decide +kernel
theorem dX23_list_34 : decode cX23_list 34 = .ok (.putfield 104, 3) := by decide +kernel
theorem dX23_list_37 : decode cX23_list 37 = .ok (.aload_n 0, 1) := by decide +kernel
theorem dX23_list_38 : decode cX23_list 38 = .ok (.bipush 61, 2) := by decide +kernel
theorem dX23_list_40 : decode cX23_list 40 = .ok (.invokevirtual 100, 3) := by decide +kernel
theorem dX23_list_43 : decode cX23_list 43 = .ok (.aload_n 1, 1) := by decide +kernel
theorem dX23_list_44 : decode cX23_list 44 = .ok (.getfield 330, 3) := by decide +kernel
theorem dX23_list_47 : decode cX23_list 47 = .ok (.iconst 3, 1) := by decide +kernel
theorem dX23_list_48 : decode cX23_list 48 = .ok (.if_icmp .ne 12, 3) := by decide +kernel
theorem dX23_list_51 : decode cX23_list 51 = .ok (.aload_n 0, 1) := by decide +kernel
theorem dX23_list_52 : decode cX23_list 52 = .ok (.bipush 62, 2) := by decide +kernel
theorem dX23_list_54 : decode cX23_list 54 = .ok (.invokevirtual 93, 3) := by decide +kernel
theorem dX23_list_57 : decode cX23_list 57 = .ok (.ifCond .ne 35, 3) := by decide +kernel
theorem dX23_list_60 : decode cX23_list 60 = .ok (.iconst 1, 1) := by decide +kernel
theorem dX23_list_61 : decode cX23_list 61 = .ok (.istore_n 2, 1) := by decide +kernel
theorem dX23_list_62 : decode cX23_list 62 = .ok (.aload_n 0, 1) := by decide +kernel
theorem dX23_list_63 : decode cX23_list 63 = .ok (.invokevirtual 89, 3) := by decide +kernel
theorem dX23_list_66 : decode cX23_list 66 = .ok (.ifCond .eq 26, 3) := by decide +kernel
theorem dX23_list_69 : decode cX23_list 69 = .ok (.iload_n 2, 1) := by decide +kernel
theorem dX23_list_70 : decode cX23_list 70 = .ok (.ifCond .eq 22, 3) := by decide +kernel
theorem dX23_list_73 : decode cX23_list 73 = .ok (.aload_n 1, 1) := by decide +kernel
theorem dX23_list_74 : decode cX23_list 74 = .ok (.aload_n 0, 1) := by decide +kernel
theorem dX23_list_75 : decode cX23_list 75 = .ok (.invokevirtual 264, 3) := by decide +kernel
theorem dX23_list_78 : decode cX23_list 78 = .ok (.iconst 0, 1) := by decide +kernel
theorem dX23_list_79 : decode cX23_list 79 = .ok (.invokestatic 351, 3) := by decide +kernel
theorem dX23_list_82 : decode cX23_list 82 = .ok (.aload_n 0, 1) := by decide +kernel
theorem dX23_list_83 : decode cX23_list 83 = .ok (.bipush 57, 2) := by decide +kernel
theorem dX23_list_85 : decode cX23_list 85 = .ok (.invokevirtual 125, 3) := by decide +kernel
theorem dX23_list_88 : decode cX23_list 88 = .ok (.istore_n 2, 1) := by decide +kernel
theorem dX23_list_89 : decode cX23_list 89 = .ok (.goto (-27), 3) := by decide +kernel
theorem dX23_list_92 : decode cX23_list 92 = .ok (.aload_n 0, 1) := by decide +kernel
theorem dX23_list_93 : decode cX23_list 93 = .ok (.dup, 1) := by decide +kernel
theorem dX23_list_94 : decode cX23_list 94 = .ok (.getfield 104, 3) := by decide +kernel
theorem dX23_list_97 : decode cX23_list 97 = .ok (.iconst 1, 1) := by decide +kernel
theorem dX23_list_98 : decode cX23_list 98 = .ok (.isub, 1) := by decide +kernel
theorem dX23_list_99 : decode cX23_list 99 = .ok (.putfield 104, 3) := by decide +kernel
theorem dX23_list_102 : decode cX23_list 102 = .ok (.aload_n 0, 1) := by decide +kernel
theorem dX23_list_103 : decode cX23_list 103 = .ok (.bipush 62, 2) := by decide +kernel
theorem dX23_list_105 : decode cX23_list 105 = .ok (.invokevirtual 100, 3) := by decide +kernel
theorem dX23_list_108 : decode cX23_list 108 = .ok (.return_, 1) := by decide +kernel
theorem dX23_newFields_0 : decode cX23_newFields 0 = .ok (.aload_n 0, 1) := by decide +kernel
theorem dX23_newFields_1 : decode cX23_newFields 1 = .ok (.dup, 1) := by decide +kernel
theorem dX23_newFields_2 : decode cX23_newFields 2 = .ok (.getfield 86, 3) := by decide +kernel
theorem dX23_newFields_5 : decode cX23_newFields 5 = .ok (.iconst 1, 1) := by decide +kernel
theorem dX23_newFields_6 : decode cX23_newFields 6 = .ok (.iadd, 1) := by decide +kernel
theorem dX23_newFields_7 : decode cX23_newFields 7 = .ok (.putfield 86, 3) := by decide +kernel
theorem dX23_newFields_10 : decode cX23_newFields 10 = .ok (.aload_n 1, 1) := by decide +kernel
theorem dX23_newFields_11 : decode cX23_newFields 11 = .ok (.aload_n 0, 1) := by decide +kernel
theorem dX23_newFields_12 : decode cX23_newFields 12 = .ok (.invokevirtual 150, 3) := by decide +kernel
theorem dX23_newFields_15 : decode cX23_newFields 15 = .ok (.putfield 362, 3) := by decide +kernel
theorem dX23_newFields_18 : decode cX23_newFields 18 = .ok (.aload_n 0, 1) := by decide +kernel
theorem dX23_newFields_19 : decode cX23_newFields 19 = .ok (.invokevirtual 89, 3) := by decide +kernel
theorem dX23_newFields_22 : decode cX23_newFields 22 = .ok (.ifCond .eq 23, 3) := by decide +kernel
theorem dX23_newFields_25 : decode cX23_newFields 25 = .ok (.aload_n 0, 1) := by decide +kernel
theorem dX23_newFields_26 : decode cX23_newFields 26 = .ok (.bipush 63, 2) := by decide +kernel
theorem dX23_newFields_28 : decode cX23_newFields 28 = .ok (.invokevirtual 93, 3) := by decide +kernel
theorem dX23_newFields_31 : decode cX23_newFields 31 = .ok (.ifCond .eq 14, 3) := by decide +kernel
theorem dX23_newFields_34 : decode cX23_newFields 34 = .ok (.aload_n 0, 1) := by decide +kernel
theorem dX23_newFields_35 : decode cX23_newFields 35 = .ok (.aload_n 0, 1) := by decide +kernel
theorem dX23_newFields_36 : decode cX23_newFields 36 = .ok (.getfield 86, 3) := by decide +kernel
theorem dX23_newFields_39 : decode cX23_newFields 39 = .ok (.invokevirtual 119, 3) := by decide +kernel
theorem dX23_newFields_42 : decode cX23_newFields 42 = .ok (.goto 13, 3) := by decide +kernel
theorem dX23_newFields_45 : decode cX23_newFields 45 = .ok (.aload_n 0, 1) := by decide +kernel
theorem dX23_newFields_46 : decode cX23_newFields 46 = .ok (.dup, 1) := by decide +kernel
theorem dX23_newFields_47 : decode cX23_newFields 47 = .ok (.getfield 104, 3) := by decide +kernel
theorem dX23_newFields_50 : decode cX23_newFields 50 = .ok (.iconst 1, 1) := by decide +kernel
theorem dX23_newFields_51 : decode cX23_newFields 51 = .ok (.iadd, 1) := by decide +kernel
theorem dX23_newFields_52 : decode cX23_newFields 52 = .ok (.putfield 104, 3) := by decide +kernel
theorem dX23_newFields_55 : decode cX23_newFields 55 = .ok (.aload_n 0, 1) := by decide +kernel
theorem dX23_newFields_56 : decode cX23_newFields 56 = .ok (.bipush 63, 2) := by decide +kernel
theorem dX23_newFields_58 : decode cX23_newFields 58 = .ok (.invokevirtual 100, 3) := by decide +kernel
theorem dX23_newFields_61 : decode cX23_newFields 61 = .ok (.iconst 1, 1) := by decide +kernel
theorem dX23_newFields_62 : decode cX23_newFields 62 = .ok (.istore_n 2, 1) := by decide +kernel
theorem dX23_newFields_63 : decode cX23_newFields 63 = .ok (.aload_n 0, 1) := by decide +kernel
theorem dX23_newFields_64 : decode cX23_newFields 64 = .ok (.invokevirtual 89, 3) := by decide +kernel
theorem dX23_newFields_67 : decode cX23_newFields 67 = .ok (.ifCond .eq 44, 3) := by decide +kernel
theorem dX23_newFields_70 : decode cX23_newFields 70 = .ok (.iload_n 2, 1) := by decide +kernel
theorem dX23_newFields_71 : decode cX23_newFields 71 = .ok (.ifCond .eq 40, 3) := by decide +kernel
theorem dX23_newFields_74 : decode cX23_newFields 74 = .ok (.aload_n 0, 1) := by decide +kernel
theorem dX23_newFields_75 : decode cX23_newFields 75 = .ok (.invokevirtual 150, 3) := by decide +kernel
theorem dX23_newFields_78 : decode cX23_newFields 78 = .ok (.istore_n 3, 1) := by decide +kernel
theorem dX23_newFields_79 : decode cX23_newFields 79 = .ok (.aload_n 0, 1) := by decide +kernel
theorem dX23_newFields_80 : decode cX23_newFields 80 = .ok (.bipush 58, 2) := by decide +kernel
theorem dX23_newFields_82 : decode cX23_newFields 82 = .ok (.invokevirtual 100, 3) := by decide +kernel
theorem dX23_newFields_85 : decode cX23_newFields 85 = .ok (.aload_n 0, 1) := by decide +kernel
theorem dX23_newFields_86 : decode cX23_newFields 86 = .ok (.invokevirtual 89, 3) := by decide +kernel
theorem dX23_newFields_89 : decode cX23_newFields 89 = .ok (.ifCond .eq 12, 3) := by decide +kernel
theorem dX23_newFields_92 : decode cX23_newFields 92 = .ok (.aload_n 1, 1) := by decide +kernel
theorem dX23_newFields_93 : decode cX23_newFields 93 = .ok (.aload_n 0, 1) := by decide +kernel
theorem dX23_newFields_94 : decode cX23_newFields 94 = .ok (.invokevirtual 264, 3) := by decide +kernel
theorem dX23_newFields_97 : decode cX23_newFields 97 = .ok (.iload_n 3, 1) := by decide +kernel
theorem dX23_newFields_98 : decode cX23_newFields 98 = .ok (.invokestatic 351, 3) := by decide +kernel
theorem dX23_newFields_101 : decode cX23_newFields 101 = .ok (.aload_n 0, 1) := by decide +kernel
theorem dX23_newFields_102 : decode cX23_newFields 102 = .ok (.bipush 57, 2) := by decide +kernel
theorem dX23_newFields_104 : decode cX23_newFields 104 = .ok (.invokevirtual 125, 3) := by decide +kernel
theorem dX23_newFields_107 : decode cX23_newFields 107 = .ok (.istore_n 2, 1) := by decide +kernel
theorem dX23_newFields_108 : decode cX23_newFields 108 = .ok (.goto (-45), 3) := by decide +kernel
theorem dX23_newFields_111 : decode cX23_newFields 111 = .ok (.aload_n 0, 1) := by decide +kernel
theorem dX23_newFields_112 : decode cX23_newFields 112 = .ok (.dup, 1) := by decide +kernel
theorem dX23_newFields_113 : decode cX23_newFields 113 = .ok (.getfield 104, 3) := by decide +kernel
theorem dX23_newFields_116 : decode cX23_newFields 116 = .ok (.iconst 1, 1) := by decide +kernel
theorem dX23_newFields_117 : decode cX23_newFields 117 = .ok (.isub, 1) := by decide +kernel
theorem dX23_newFields_118 : decode cX23_newFields 118 = .ok (.putfield 104, 3) := by decide +kernel
theorem dX23_newFields_121 : decode cX23_newFields 121 = .ok (.aload_n 0, 1) := by decide +kernel
theorem dX23_newFields_122 : decode cX23_newFields 122 = .ok (.bipush 64, 2) := by decide +kernel
theorem dX23_newFields_124 : decode cX23_newFields 124 = .ok (.invokevirtual 100, 3) := by decide +kernel
theorem dX23_newFields_127 : decode cX23_newFields 127 = .ok (.return_, 1) := by decide +kernel
theorem dX23_primary_0 : decode cX23_primary 0 = .ok (.new 295, 3) := by decide +kernel
theorem dX23_primary_3 : decode cX23_primary 3 = .ok (.dup, 1) := by decide +kernel
theorem dX23_primary_4 : decode cX23_primary 4 = .ok (.invokespecial 349, 3) := by decide +kernel
theorem dX23_primary_7 : decode cX23_primary 7 = .ok (.astore_n 1, 1) := by decide +kernel
theorem dX23_primary_8 : decode cX23_primary 8 = .ok (.aload_n 1, 1) := by decide +kernel
theorem dX23_primary_9 : decode cX23_primary 9 = .ok (.aload_n 0, 1) := by decide +kernel
theorem dX23_primary_10 : decode cX23_primary 10 = .ok (.getfield 86, 3) := by decide +kernel
theorem dX23_primary_13 : decode cX23_primary 13 = .ok (.putfield 350, 3) := by decide +kernel
theorem dX23_primary_16 : decode cX23_primary 16 = .ok (.aload_n 0, 1) := by decide +kernel
theorem dX23_primary_17 : decode cX23_primary 17 = .ok (.getfield 25, 3) := by decide +kernel
theorem dX23_primary_20 : decode cX23_primary 20 = .ok (.aload_n 0, 1) := by decide +kernel
theorem dX23_primary_21 : decode cX23_primary 21 = .ok (.getfield 86, 3) := by decide +kernel
theorem dX23_primary_24 : decode cX23_primary 24 = .ok (.iaload, 1) := by decide +kernel
theorem dX23_primary_25 : decode cX23_primary 25 = .ok (.lookupswitch 219 #[(2, 211), (3, 75), (21, 106), (22, 106), (24, 184), (25, 161), (28, 142), (61, 197)], 75) := by decide +kernel
theorem dX23_primary_100 : decode cX23_primary 100 = .ok (.aload_n 1, 1) := by decide +kernel
theorem dX23_primary_101 : decode cX23_primary 101 = .ok (.iconst 0, 1) := by decide +kernel
theorem dX23_primary_102 : decode cX23_primary 102 = .ok (.putfield 330, 3) := by decide +kernel
theorem dX23_primary_105 : decode cX23_primary 105 = .ok (.aload_n 1, 1) := by decide +kernel
theorem dX23_primary_106 : decode cX23_primary 106 = .ok (.aload_n 0, 1) := by decide +kernel
theorem dX23_primary_107 : decode cX23_primary 107 = .ok (.getfield 37, 3) := by decide +kernel
theorem dX23_primary_110 : decode cX23_primary 110 = .ok (.aload_n 0, 1) := by decide +kernel
theorem dX23_primary_111 : decode cX23_primary 111 = .ok (.getfield 86, 3) := by decide +kernel
theorem dX23_primary_114 : decode cX23_primary 114 = .ok (.laload, 1) := by decide +kernel
theorem dX23_primary_115 : decode cX23_primary 115 = .ok (.putfield 363, 3) := by decide +kernel
theorem dX23_primary_118 : decode cX23_primary 118 = .ok (.aload_n 0, 1) := by decide +kernel
theorem dX23_primary_119 : decode cX23_primary 119 = .ok (.dup, 1) := by decide +kernel
theorem dX23_primary_120 : decode cX23_primary 120 = .ok (.getfield 86, 3) := by decide +kernel
theorem dX23_primary_123 : decode cX23_primary 123 = .ok (.iconst 1, 1) := by decide +kernel
theorem dX23_primary_124 : decode cX23_primary 124 = .ok (.iadd, 1) := by decide +kernel
theorem dX23_primary_125 : decode cX23_primary 125 = .ok (.putfield 86, 3) := by decide +kernel
theorem dX23_primary_128 : decode cX23_primary 128 = .ok (.goto 125, 3) := by decide +kernel
theorem dX23_primary_131 : decode cX23_primary 131 = .ok (.aload_n 1, 1) := by decide +kernel
theorem dX23_primary_132 : decode cX23_primary 132 = .ok (.iconst 1, 1) := by decide +kernel
theorem dX23_primary_133 : decode cX23_primary 133 = .ok (.putfield 330, 3) := by decide +kernel
theorem dX23_primary_136 : decode cX23_primary 136 = .ok (.aload_n 1, 1) := by decide +kernel
theorem dX23_primary_137 : decode cX23_primary 137 = .ok (.aload_n 0, 1) := by decide +kernel
theorem dX23_primary_138 : decode cX23_primary 138 = .ok (.bipush 21, 2) := by decide +kernel
theorem dX23_primary_140 : decode cX23_primary 140 = .ok (.invokevirtual 93, 3) := by decide +kernel
theorem dX23_primary_143 : decode cX23_primary 143 = .ok (.ifCond .eq 7, 3) := by decide +kernel
theorem dX23_primary_146 : decode cX23_primary 146 = .ok (.lconst 1, 1) := by decide +kernel
theorem dX23_primary_147 : decode cX23_primary 147 = .ok (.goto 4, 3) := by decide +kernel
theorem dX23_primary_150 : decode cX23_primary 150 = .ok (.lconst 0, 1) := by decide +kernel
theorem dX23_primary_151 : decode cX23_primary 151 = .ok (.putfield 363, 3) := by decide +kernel
theorem dX23_primary_154 : decode cX23_primary 154 = .ok (.aload_n 0, 1) := by decide +kernel
theorem dX23_primary_155 : decode cX23_primary 155 = .ok (.dup, 1) := by decide +kernel
theorem dX23_primary_156 : decode cX23_primary 156 = .ok (.getfield 86, 3) := by decide +kernel
theorem dX23_primary_159 : decode cX23_primary 159 = .ok (.iconst 1, 1) := by decide +kernel
theorem dX23_primary_160 : decode cX23_primary 160 = .ok (.iadd, 1) := by decide +kernel
theorem dX23_primary_161 : decode cX23_primary 161 = .ok (.putfield 86, 3) := by decide +kernel
theorem dX23_primary_164 : decode cX23_primary 164 = .ok (.goto 89, 3) := by decide +kernel
theorem dX23_primary_167 : decode cX23_primary 167 = .ok (.aload_n 1, 1) := by decide +kernel
theorem dX23_primary_168 : decode cX23_primary 168 = .ok (.bipush 15, 2) := by decide +kernel
theorem dX23_primary_170 : decode cX23_primary 170 = .ok (.putfield 330, 3) := by decide +kernel
theorem dX23_primary_173 : decode cX23_primary 173 = .ok (.aload_n 0, 1) := by decide +kernel
theorem dX23_primary_174 : decode cX23_primary 174 = .ok (.dup, 1) := by decide +kernel
theorem dX23_primary_175 : decode cX23_primary 175 = .ok (.getfield 86, 3) := by decide +kernel
theorem dX23_primary_178 : decode cX23_primary 178 = .ok (.iconst 1, 1) := by decide +kernel
theorem dX23_primary_179 : decode cX23_primary 179 = .ok (.iadd, 1) := by decide +kernel
theorem dX23_primary_180 : decode cX23_primary 180 = .ok (.putfield 86, 3) := by decide +kernel
theorem dX23_primary_183 : decode cX23_primary 183 = .ok (.goto 70, 3) := by decide +kernel
theorem dX23_primary_186 : decode cX23_primary 186 = .ok (.aload_n 1, 1) := by decide +kernel
theorem dX23_primary_187 : decode cX23_primary 187 = .ok (.iconst 4, 1) := by decide +kernel
theorem dX23_primary_188 : decode cX23_primary 188 = .ok (.putfield 330, 3) := by decide +kernel
theorem dX23_primary_191 : decode cX23_primary 191 = .ok (.aload_n 0, 1) := by decide +kernel
theorem dX23_primary_192 : decode cX23_primary 192 = .ok (.dup, 1) := by decide +kernel
theorem dX23_primary_193 : decode cX23_primary 193 = .ok (.getfield 86, 3) := by decide +kernel
theorem dX23_primary_196 : decode cX23_primary 196 = .ok (.iconst 1, 1) := by decide +kernel
theorem dX23_primary_197 : decode cX23_primary 197 = .ok (.iadd, 1) := by decide +kernel
theorem dX23_primary_198 : decode cX23_primary 198 = .ok (.putfield 86, 3) := by decide +kernel
theorem dX23_primary_201 : decode cX23_primary 201 = .ok (.aload_n 0, 1) := by decide +kernel
theorem dX23_primary_202 : decode cX23_primary 202 = .ok (.aload_n 1, 1) := by decide +kernel
theorem dX23_primary_203 : decode cX23_primary 203 = .ok (.invokevirtual 367, 3) := by decide +kernel
theorem dX23_primary_206 : decode cX23_primary 206 = .ok (.goto 47, 3) := by decide +kernel
theorem dX23_primary_209 : decode cX23_primary 209 = .ok (.aload_n 1, 1) := by decide +kernel
theorem dX23_primary_210 : decode cX23_primary 210 = .ok (.iconst 5, 1) := by decide +kernel
theorem dX23_primary_211 : decode cX23_primary 211 = .ok (.putfield 330, 3) := by decide +kernel
theorem dX23_primary_214 : decode cX23_primary 214 = .ok (.aload_n 0, 1) := by decide +kernel
theorem dX23_primary_215 : decode cX23_primary 215 = .ok (.aload_n 1, 1) := by decide +kernel
theorem dX23_primary_216 : decode cX23_primary 216 = .ok (.invokevirtual 371, 3) := by decide +kernel
theorem dX23_primary_219 : decode cX23_primary 219 = .ok (.goto 34, 3) := by decide +kernel
theorem dX23_primary_222 : decode cX23_primary 222 = .ok (.aload_n 1, 1) := by decide +kernel
theorem dX23_primary_223 : decode cX23_primary 223 = .ok (.bipush 7, 2) := by decide +kernel
theorem dX23_primary_225 : decode cX23_primary 225 = .ok (.putfield 330, 3) := by decide +kernel
theorem dX23_primary_228 : decode cX23_primary 228 = .ok (.aload_n 0, 1) := by decide +kernel
theorem dX23_primary_229 : decode cX23_primary 229 = .ok (.aload_n 1, 1) := by decide +kernel
theorem dX23_primary_230 : decode cX23_primary 230 = .ok (.invokevirtual 367, 3) := by decide +kernel
theorem dX23_primary_233 : decode cX23_primary 233 = .ok (.goto 20, 3) := by decide +kernel
theorem dX23_primary_236 : decode cX23_primary 236 = .ok (.aload_n 0, 1) := by decide +kernel
theorem dX23_primary_237 : decode cX23_primary 237 = .ok (.aload_n 1, 1) := by decide +kernel
theorem dX23_primary_238 : decode cX23_primary 238 = .ok (.invokevirtual 374, 3) := by decide +kernel
theorem dX23_primary_241 : decode cX23_primary 241 = .ok (.goto 12, 3) := by decide +kernel
theorem dX23_primary_244 : decode cX23_primary 244 = .ok (.aload_n 0, 1) := by decide +kernel
theorem dX23_primary_245 : decode cX23_primary 245 = .ok (.iconst 1, 1) := by decide +kernel
theorem dX23_primary_246 : decode cX23_primary 246 = .ok (.aload_n 0, 1) := by decide +kernel
theorem dX23_primary_247 : decode cX23_primary 247 = .ok (.getfield 86, 3) := by decide +kernel
theorem dX23_primary_250 : decode cX23_primary 250 = .ok (.invokevirtual 96, 3) := by decide +kernel
theorem dX23_primary_253 : decode cX23_primary 253 = .ok (.aload_n 1, 1) := by decide +kernel
theorem dX23_primary_254 : decode cX23_primary 254 = .ok (.areturn, 1) := by decide +kernel
theorem dX23_enterBracket_0 : decode cX23_enterBracket 0 = .ok (.aload_n 0, 1) := by decide +kernel
theorem dX23_enterBracket_1 : decode cX23_enterBracket 1 = .ok (.invokevirtual 89, 3) := by decide +kernel
theorem dX23_enterBracket_4 : decode cX23_enterBracket 4 = .ok (.ifCond .eq 23, 3) := by decide +kernel
theorem dX23_enterBracket_7 : decode cX23_enterBracket 7 = .ok (.aload_n 0, 1) := by decide +kernel
theorem dX23_enterBracket_8 : decode cX23_enterBracket 8 = .ok (.bipush 61, 2) := by decide +kernel
theorem dX23_enterBracket_10 : decode cX23_enterBracket 10 = .ok (.invokevirtual 93, 3) := by decide +kernel
theorem dX23_enterBracket_13 : decode cX23_enterBracket 13 = .ok (.ifCond .eq 14, 3) := by decide +kernel
theorem dX23_enterBracket_16 : decode cX23_enterBracket 16 = .ok (.aload_n 0, 1) := by decide +kernel
theorem dX23_enterBracket_17 : decode cX23_enterBracket 17 = .ok (.aload_n 0, 1) := by decide +kernel
theorem dX23_enterBracket_18 : decode cX23_enterBracket 18 = .ok (.getfield 86, 3) := by decide +kernel
theorem dX23_enterBracket_21 : decode cX23_enterBracket 21 = .ok (.invokevirtual 119, 3) := by decide +kernel
theorem dX23_enterBracket_24 : decode cX23_enterBracket 24 = .ok (.goto 13, 3) := by decide +kernel
theorem dX23_enterBracket_27 : decode cX23_enterBracket 27 = .ok (.aload_n 0, 1) := by decide +kernel
theorem dX23_enterBracket_28 : decode cX23_enterBracket 28 = .ok (.dup, 1) := by decide +kernel
theorem dX23_enterBracket_29 : decode cX23_enterBracket 29 = .ok (.getfield 104, 3) := by decide +kernel
theorem dX23_enterBracket_32 : decode cX23_enterBracket 32 = .ok (.iconst 1, 1) := by decide +kernel
theorem dX23_enterBracket_33 : decode cX23_enterBracket 33 = .ok (.iadd, 1) := by decide +kernel
theorem dX23_enterBracket_34 : decode cX23_enterBracket 34 = .ok (.putfield 104, 3) := by decide +kernel
theorem dX23_enterBracket_37 : decode cX23_enterBracket 37 = .ok (.aload_n 0, 1) := by decide +kernel
theorem dX23_enterBracket_38 : decode cX23_enterBracket 38 = .ok (.bipush 61, 2) := by decide +kernel
theorem dX23_enterBracket_40 : decode cX23_enterBracket 40 = .ok (.invokevirtual 100, 3) := by decide +kernel
theorem dX23_enterBracket_43 : decode cX23_enterBracket 43 = .ok (.aload_n 0, 1) := by decide +kernel
theorem dX23_enterBracket_44 : decode cX23_enterBracket 44 = .ok (.invokevirtual 89, 3) := by decide +kernel
theorem dX23_enterBracket_47 : decode cX23_enterBracket 47 = .ok (.ifCond .eq 11, 3) := by decide +kernel
theorem dX23_enterBracket_50 : decode cX23_enterBracket 50 = .ok (.aload_n 1, 1) := by decide +kernel
theorem dX23_enterBracket_51 : decode cX23_enterBracket 51 = .ok (.aload_n 0, 1) := by decide +kernel
theorem dX23_enterBracket_52 : decode cX23_enterBracket 52 = .ok (.invokevirtual 264, 3) := by decide +kernel
theorem dX23_enterBracket_55 : decode cX23_enterBracket 55 = .ok (.putfield 331, 3) := by decide +kernel
theorem dX23_enterBracket_58 : decode cX23_enterBracket 58 = .ok (.aload_n 0, 1) := by decide +kernel
theorem dX23_enterBracket_59 : decode cX23_enterBracket 59 = .ok (.dup, 1) := by decide +kernel
theorem dX23_enterBracket_60 : decode cX23_enterBracket 60 = .ok (.getfield 104, 3) := by decide +kernel
theorem dX23_enterBracket_63 : decode cX23_enterBracket 63 = .ok (.iconst 1, 1) := by decide +kernel
theorem dX23_enterBracket_64 : decode cX23_enterBracket 64 = .ok (.isub, 1) := by decide +kernel
theorem dX23_enterBracket_65 : decode cX23_enterBracket 65 = .ok (.putfield 104, 3) := by decide +kernel
theorem dX23_enterBracket_68 : decode cX23_enterBracket 68 = .ok (.aload_n 0, 1) := by decide +kernel
theorem dX23_enterBracket_69 : decode cX23_enterBracket 69 = .ok (.bipush 62, 2) := by decide +kernel
theorem dX23_enterBracket_71 : decode cX23_enterBracket 71 = .ok (.invokevirtual 100, 3) := by decide +kernel
theorem dX23_enterBracket_74 : decode cX23_enterBracket 74 = .ok (.return_, 1) := by decide +kernel
theorem dX23_named_0 : decode cX23_named 0 = .ok (.aload_n 1, 1) := by decide +kernel
theorem dX23_named_1 : decode cX23_named 1 = .ok (.aload_n 0, 1) := by decide +kernel
theorem dX23_named_2 : decode cX23_named 2 = .ok (.getfield 86, 3) := by decide +kernel
theorem dX23_named_5 : decode cX23_named 5 = .ok (.putfield 362, 3) := by decide +kernel
theorem dX23_named_8 : decode cX23_named 8 = .ok (.aload_n 0, 1) := by decide +kernel
theorem dX23_named_9 : decode cX23_named 9 = .ok (.dup, 1) := by decide +kernel
theorem dX23_named_10 : decode cX23_named 10 = .ok (.getfield 86, 3) := by decide +kernel
theorem dX23_named_13 : decode cX23_named 13 = .ok (.iconst 1, 1) := by decide +kernel
theorem dX23_named_14 : decode cX23_named 14 = .ok (.iadd, 1) := by decide +kernel
theorem dX23_named_15 : decode cX23_named 15 = .ok (.putfield 86, 3) := by decide +kernel
theorem dX23_named_18 : decode cX23_named 18 = .ok (.aload_n 0, 1) := by decide +kernel
theorem dX23_named_19 : decode cX23_named 19 = .ok (.bipush 61, 2) := by decide +kernel
theorem dX23_named_21 : decode cX23_named 21 = .ok (.invokevirtual 93, 3) := by decide +kernel
theorem dX23_named_24 : decode cX23_named 24 = .ok (.ifCond .eq 16, 3) := by decide +kernel
theorem dX23_named_27 : decode cX23_named 27 = .ok (.aload_n 1, 1) := by decide +kernel
theorem dX23_named_28 : decode cX23_named 28 = .ok (.iconst 3, 1) := by decide +kernel
theorem dX23_named_29 : decode cX23_named 29 = .ok (.putfield 330, 3) := by decide +kernel
theorem dX23_named_32 : decode cX23_named 32 = .ok (.aload_n 0, 1) := by decide +kernel
theorem dX23_named_33 : decode cX23_named 33 = .ok (.aload_n 1, 1) := by decide +kernel
theorem dX23_named_34 : decode cX23_named 34 = .ok (.invokevirtual 377, 3) := by decide +kernel
theorem dX23_named_37 : decode cX23_named 37 = .ok (.goto 55, 3) := by decide +kernel
theorem dX23_named_40 : decode cX23_named 40 = .ok (.aload_n 0, 1) := by decide +kernel
theorem dX23_named_41 : decode cX23_named 41 = .ok (.bipush 59, 2) := by decide +kernel
theorem dX23_named_43 : decode cX23_named 43 = .ok (.invokevirtual 125, 3) := by decide +kernel
theorem dX23_named_46 : decode cX23_named 46 = .ok (.ifCond .eq 41, 3) := by decide +kernel
theorem dX23_named_49 : decode cX23_named 49 = .ok (.aload_n 1, 1) := by decide +kernel
theorem dX23_named_50 : decode cX23_named 50 = .ok (.bipush 6, 2) := by decide +kernel
theorem dX23_named_52 : decode cX23_named 52 = .ok (.putfield 330, 3) := by decide +kernel
theorem dX23_named_55 : decode cX23_named 55 = .ok (.aload_n 1, 1) := by decide +kernel
theorem dX23_named_56 : decode cX23_named 56 = .ok (.aload_n 0, 1) := by decide +kernel
theorem dX23_named_57 : decode cX23_named 57 = .ok (.invokevirtual 150, 3) := by decide +kernel
theorem dX23_named_60 : decode cX23_named 60 = .ok (.putfield 379, 3) := by decide +kernel
theorem dX23_named_63 : decode cX23_named 63 = .ok (.aload_n 0, 1) := by decide +kernel
theorem dX23_named_64 : decode cX23_named 64 = .ok (.invokevirtual 89, 3) := by decide +kernel
theorem dX23_named_67 : decode cX23_named 67 = .ok (.ifCond .eq 25, 3) := by decide +kernel
theorem dX23_named_70 : decode cX23_named 70 = .ok (.aload_n 0, 1) := by decide +kernel
theorem dX23_named_71 : decode cX23_named 71 = .ok (.bipush 61, 2) := by decide +kernel
theorem dX23_named_73 : decode cX23_named 73 = .ok (.invokevirtual 93, 3) := by decide +kernel
theorem dX23_named_76 : decode cX23_named 76 = .ok (.ifCond .eq 16, 3) := by decide +kernel
theorem dX23_named_79 : decode cX23_named 79 = .ok (.aload_n 0, 1) := by decide +kernel
theorem dX23_named_80 : decode cX23_named 80 = .ok (.aload_n 1, 1) := by decide +kernel
theorem dX23_named_81 : decode cX23_named 81 = .ok (.invokevirtual 377, 3) := by decide +kernel
theorem dX23_named_84 : decode cX23_named 84 = .ok (.goto 8, 3) := by decide +kernel
theorem dX23_named_87 : decode cX23_named 87 = .ok (.aload_n 1, 1) := by decide +kernel
theorem dX23_named_88 : decode cX23_named 88 = .ok (.iconst 2, 1) := by decide +kernel
theorem dX23_named_89 : decode cX23_named 89 = .ok (.putfield 330, 3) := by decide +kernel
theorem dX23_named_92 : decode cX23_named 92 = .ok (.return_, 1) := by decide +kernel
theorem dX23_exp_0 : decode cX23_exp 0 = .ok (.aload_n 0, 1) := by decide +kernel
theorem dX23_exp_1 : decode cX23_exp 1 = .ok (.iconst 1, 1) := by decide +kernel
theorem dX23_exp_2 : decode cX23_exp 2 = .ok (.invokevirtual 333, 3) := by decide +kernel
theorem dX23_exp_5 : decode cX23_exp 5 = .ok (.areturn, 1) := by decide +kernel
