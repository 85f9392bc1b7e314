theorem dX23_type_0 : decode cX23_type 0 = .ok (.iconst 0, 1) := by decide +kernel
theorem dX23_type_1 : decode cX23_type 1 = .ok (.istore 4, 2) := by decide +kernel
theorem dX23_type_3 : decode cX23_type 3 = .ok (.iload 4, 2) := by decide +kernel
theorem dX23_type_5 : decode cX23_type 5 = .ok (.aload_n 0, 1) := by decide +kernel
theorem dX23_type_6 : decode cX23_type 6 = .ok (.getfield 382, 3) := by decide +kernel
theorem dX23_type_9 : decode cX23_type 9 = .ok (.if_icmp .ge 59, 3) := by decide +kernel
theorem dX23_type_12 : decode cX23_type 12 = .ok (.aload_n 0, 1) := by decide +kernel
theorem dX23_type_13 : decode cX23_type 13 = .ok (.getfield 385, 3) := by decide +kernel
theorem dX23_type_16 : decode cX23_type 16 = .ok (.iload 4, 2) := by decide +kernel
theorem dX23_type_18 : decode cX23_type 18 = .ok (.aaload, 1) := by decide +kernel
theorem dX23_type_19 : decode cX23_type 19 = .ok (.getfield 386, 3) := by decide +kernel
theorem dX23_type_22 : decode cX23_type 22 = .ok (.iload_n 1, 1) := by decide +kernel
theorem dX23_type_23 : decode cX23_type 23 = .ok (.if_icmp .ne 39, 3) := by decide +kernel
theorem dX23_type_26 : decode cX23_type 26 = .ok (.aload_n 0, 1) := by decide +kernel
theorem dX23_type_27 : decode cX23_type 27 = .ok (.getfield 385, 3) := by decide +kernel
theorem dX23_type_30 : decode cX23_type 30 = .ok (.iload 4, 2) := by decide +kernel
theorem dX23_type_32 : decode cX23_type 32 = .ok (.aaload, 1) := by decide +kernel
theorem dX23_type_33 : decode cX23_type 33 = .ok (.getfield 387, 3) := by decide +kernel
theorem dX23_type_36 : decode cX23_type 36 = .ok (.iload_n 2, 1) := by decide +kernel
theorem dX23_type_37 : decode cX23_type 37 = .ok (.if_icmp .ne 25, 3) := by decide +kernel
theorem dX23_type_40 : decode cX23_type 40 = .ok (.aload_n 0, 1) := by decide +kernel
theorem dX23_type_41 : decode cX23_type 41 = .ok (.getfield 385, 3) := by decide +kernel
theorem dX23_type_44 : decode cX23_type 44 = .ok (.iload 4, 2) := by decide +kernel
theorem dX23_type_46 : decode cX23_type 46 = .ok (.aaload, 1) := by decide +kernel
theorem dX23_type_47 : decode cX23_type 47 = .ok (.getfield 390, 3) := by decide +kernel
theorem dX23_type_50 : decode cX23_type 50 = .ok (.aload_n 3, 1) := by decide +kernel
theorem dX23_type_51 : decode cX23_type 51 = .ok (.if_acmp .ne 11, 3) := by decide +kernel
theorem dX23_type_54 : decode cX23_type 54 = .ok (.aload_n 0, 1) := by decide +kernel
theorem dX23_type_55 : decode cX23_type 55 = .ok (.getfield 385, 3) := by decide +kernel
theorem dX23_type_58 : decode cX23_type 58 = .ok (.iload 4, 2) := by decide +kernel
theorem dX23_type_60 : decode cX23_type 60 = .ok (.aaload, 1) := by decide +kernel
theorem dX23_type_61 : decode cX23_type 61 = .ok (.areturn, 1) := by decide +kernel
theorem dX23_type_62 : decode cX23_type 62 = .ok (.iinc 4 1, 3) := by decide +kernel
theorem dX23_type_65 : decode cX23_type 65 = .ok (.goto (-62), 3) := by decide +kernel
theorem dX23_type_68 : decode cX23_type 68 = .ok (.new 164, 3) := by decide +kernel
theorem dX23_type_71 : decode cX23_type 71 = .ok (.dup, 1) := by decide +kernel
theorem dX23_type_72 : decode cX23_type 72 = .ok (.invokespecial 393, 3) := by decide +kernel
theorem dX23_type_75 : decode cX23_type 75 = .ok (.astore 4, 2) := by decide +kernel
theorem dX23_type_77 : decode cX23_type 77 = .ok (.aload 4, 2) := by decide +kernel
theorem dX23_type_79 : decode cX23_type 79 = .ok (.iload_n 1, 1) := by decide +kernel
theorem dX23_type_80 : decode cX23_type 80 = .ok (.putfield 386, 3) := by decide +kernel
theorem dX23_type_83 : decode cX23_type 83 = .ok (.aload 4, 2) := by decide +kernel
theorem dX23_type_85 : decode cX23_type 85 = .ok (.iload_n 2, 1) := by decide +kernel
theorem dX23_type_86 : decode cX23_type 86 = .ok (.putfield 387, 3) := by decide +kernel
theorem dX23_type_89 : decode cX23_type 89 = .ok (.aload 4, 2) := by decide +kernel
theorem dX23_type_91 : decode cX23_type 91 = .ok (.aload_n 3, 1) := by decide +kernel
theorem dX23_type_92 : decode cX23_type 92 = .ok (.putfield 390, 3) := by decide +kernel
theorem dX23_type_95 : decode cX23_type 95 = .ok (.aload 4, 2) := by decide +kernel
theorem dX23_type_97 : decode cX23_type 97 = .ok (.aload_n 0, 1) := by decide +kernel
theorem dX23_type_98 : decode cX23_type 98 = .ok (.getfield 382, 3) := by decide +kernel
theorem dX23_type_101 : decode cX23_type 101 = .ok (.putfield 394, 3) := by decide +kernel
theorem dX23_type_104 : decode cX23_type 104 = .ok (.aload_n 0, 1) := by decide +kernel
theorem dX23_type_105 : decode cX23_type 105 = .ok (.getfield 385, 3) := by decide +kernel
theorem dX23_type_108 : decode cX23_type 108 = .ok (.aload_n 0, 1) := by decide +kernel
theorem dX23_type_109 : decode cX23_type 109 = .ok (.getfield 382, 3) := by decide +kernel
theorem dX23_type_112 : decode cX23_type 112 = .ok (.aload 4, 2) := by decide +kernel
theorem dX23_type_114 : decode cX23_type 114 = .ok (.aastore, 1) := by decide +kernel
theorem dX23_type_115 : decode cX23_type 115 = .ok (.aload_n 0, 1) := by decide +kernel
theorem dX23_type_116 : decode cX23_type 116 = .ok (.dup, 1) := by decide +kernel
theorem dX23_type_117 : decode cX23_type 117 = .ok (.getfield 382, 3) := by decide +kernel
theorem dX23_type_120 : decode cX23_type 120 = .ok (.iconst 1, 1) := by decide +kernel
theorem dX23_type_121 : decode cX23_type 121 = .ok (.iadd, 1) := by decide +kernel
theorem dX23_type_122 : decode cX23_type 122 = .ok (.putfield 382, 3) := by decide +kernel
theorem dX23_type_125 : decode cX23_type 125 = .ok (.aload 4, 2) := by decide +kernel
theorem dX23_type_127 : decode cX23_type 127 = .ok (.areturn, 1) := by decide +kernel
theorem dX23_plainType_0 : decode cX23_plainType 0 = .ok (.aload_n 0, 1) := by decide +kernel
theorem dX23_plainType_1 : decode cX23_plainType 1 = .ok (.iload_n 1, 1) := by decide +kernel
theorem dX23_plainType_2 : decode cX23_plainType 2 = .ok (.iconst 0, 1) := by decide +kernel
theorem dX23_plainType_3 : decode cX23_plainType 3 = .ok (.aconst_null, 1) := by decide +kernel
theorem dX23_plainType_4 : decode cX23_plainType 4 = .ok (.invokevirtual 397, 3) := by decide +kernel
theorem dX23_plainType_7 : decode cX23_plainType 7 = .ok (.areturn, 1) := by decide +kernel
theorem dX23_itemNamed_0 : decode cX23_itemNamed 0 = .ok (.iconst 0, 1) := by decide +kernel
theorem dX23_itemNamed_1 : decode cX23_itemNamed 1 = .ok (.istore_n 2, 1) := by decide +kernel
theorem dX23_itemNamed_2 : decode cX23_itemNamed 2 = .ok (.iload_n 2, 1) := by decide +kernel
theorem dX23_itemNamed_3 : decode cX23_itemNamed 3 = .ok (.aload_n 0, 1) := by decide +kernel
theorem dX23_itemNamed_4 : decode cX23_itemNamed 4 = .ok (.getfield 221, 3) := by decide +kernel
theorem dX23_itemNamed_7 : decode cX23_itemNamed 7 = .ok (.if_icmp .ge 28, 3) := by decide +kernel
theorem dX23_itemNamed_10 : decode cX23_itemNamed 10 = .ok (.aload_n 0, 1) := by decide +kernel
theorem dX23_itemNamed_11 : decode cX23_itemNamed 11 = .ok (.aload_n 0, 1) := by decide +kernel
theorem dX23_itemNamed_12 : decode cX23_itemNamed 12 = .ok (.getfield 232, 3) := by decide +kernel
theorem dX23_itemNamed_15 : decode cX23_itemNamed 15 = .ok (.iload_n 2, 1) := by decide +kernel
theorem dX23_itemNamed_16 : decode cX23_itemNamed 16 = .ok (.aaload, 1) := by decide +kernel
theorem dX23_itemNamed_17 : decode cX23_itemNamed 17 = .ok (.getfield 176, 3) := by decide +kernel
theorem dX23_itemNamed_20 : decode cX23_itemNamed 20 = .ok (.iload_n 1, 1) := by decide +kernel
theorem dX23_itemNamed_21 : decode cX23_itemNamed 21 = .ok (.invokevirtual 401, 3) := by decide +kernel
theorem dX23_itemNamed_24 : decode cX23_itemNamed 24 = .ok (.ifCond .eq 5, 3) := by decide +kernel
theorem dX23_itemNamed_27 : decode cX23_itemNamed 27 = .ok (.iload_n 2, 1) := by decide +kernel
theorem dX23_itemNamed_28 : decode cX23_itemNamed 28 = .ok (.ireturn, 1) := by decide +kernel
theorem dX23_itemNamed_29 : decode cX23_itemNamed 29 = .ok (.iinc 2 1, 3) := by decide +kernel
theorem dX23_itemNamed_32 : decode cX23_itemNamed 32 = .ok (.goto (-30), 3) := by decide +kernel
theorem dX23_itemNamed_35 : decode cX23_itemNamed 35 = .ok (.iconst (-1), 1) := by decide +kernel
theorem dX23_itemNamed_36 : decode cX23_itemNamed 36 = .ok (.ireturn, 1) := by decide +kernel
