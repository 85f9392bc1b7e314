theorem dX7_assign_0 : decode cX7_assign 0 = .ok (.aload_n 0, 1) := by decide +kernel
theorem dX7_assign_1 : decode cX7_assign 1 = .ok (.getfield 27, 3) := by decide +kernel
theorem dX7_assign_4 : decode cX7_assign 4 = .ok (.getfield 106, 3) := by decide +kernel
theorem dX7_assign_7 : decode cX7_assign 7 = .ok (.iload_n 1, 1) := by decide +kernel
theorem dX7_assign_8 : decode cX7_assign 8 = .ok (.iaload, 1) := by decide +kernel
theorem dX7_assign_9 : decode cX7_assign 9 = .ok (.istore_n 2, 1) := by decide +kernel
theorem dX7_assign_10 : decode cX7_assign 10 = .ok (.aload_n 0, 1) := by decide +kernel
theorem dX7_assign_11 : decode cX7_assign 11 = .ok (.getfield 27, 3) := by decide +kernel
theorem dX7_assign_14 : decode cX7_assign 14 = .ok (.iload_n 1, 1) := by decide +kernel
theorem dX7_assign_15 : decode cX7_assign 15 = .ok (.invokevirtual 135, 3) := by decide +kernel
theorem dX7_assign_18 : decode cX7_assign 18 = .ok (.ifCond .eq 9, 3) := by decide +kernel
theorem dX7_assign_21 : decode cX7_assign 21 = .ok (.aload_n 0, 1) := by decide +kernel
theorem dX7_assign_22 : decode cX7_assign 22 = .ok (.iload_n 1, 1) := by decide +kernel
theorem dX7_assign_23 : decode cX7_assign 23 = .ok (.invokevirtual 103, 3) := by decide +kernel
theorem dX7_assign_26 : decode cX7_assign 26 = .ok (.return_, 1) := by decide +kernel
theorem dX7_assign_27 : decode cX7_assign 27 = .ok (.aload_n 0, 1) := by decide +kernel
theorem dX7_assign_28 : decode cX7_assign 28 = .ok (.getfield 27, 3) := by decide +kernel
theorem dX7_assign_31 : decode cX7_assign 31 = .ok (.getfield 138, 3) := by decide +kernel
theorem dX7_assign_34 : decode cX7_assign 34 = .ok (.iload_n 1, 1) := by decide +kernel
theorem dX7_assign_35 : decode cX7_assign 35 = .ok (.iaload, 1) := by decide +kernel
theorem dX7_assign_36 : decode cX7_assign 36 = .ok (.ifCond .ne 32, 3) := by decide +kernel
theorem dX7_assign_39 : decode cX7_assign 39 = .ok (.aload_n 0, 1) := by decide +kernel
theorem dX7_assign_40 : decode cX7_assign 40 = .ok (.getfield 31, 3) := by decide +kernel
theorem dX7_assign_43 : decode cX7_assign 43 = .ok (.getfield 141, 3) := by decide +kernel
theorem dX7_assign_46 : decode cX7_assign 46 = .ok (.iload_n 2, 1) := by decide +kernel
theorem dX7_assign_47 : decode cX7_assign 47 = .ok (.baload, 1) := by decide +kernel
theorem dX7_assign_48 : decode cX7_assign 48 = .ok (.ifCond .ne 20, 3) := by decide +kernel
theorem dX7_assign_51 : decode cX7_assign 51 = .ok (.aload_n 0, 1) := by decide +kernel
theorem dX7_assign_52 : decode cX7_assign 52 = .ok (.getfield 9, 3) := by decide +kernel
theorem dX7_assign_55 : decode cX7_assign 55 = .ok (.iload_n 2, 1) := by decide +kernel
theorem dX7_assign_56 : decode cX7_assign 56 = .ok (.iaload, 1) := by decide +kernel
theorem dX7_assign_57 : decode cX7_assign 57 = .ok (.bipush 16, 2) := by decide +kernel
theorem dX7_assign_59 : decode cX7_assign 59 = .ok (.iushr, 1) := by decide +kernel
theorem dX7_assign_60 : decode cX7_assign 60 = .ok (.ifCond .eq 8, 3) := by decide +kernel
theorem dX7_assign_63 : decode cX7_assign 63 = .ok (.aload_n 0, 1) := by decide +kernel
theorem dX7_assign_64 : decode cX7_assign 64 = .ok (.iload_n 1, 1) := by decide +kernel
theorem dX7_assign_65 : decode cX7_assign 65 = .ok (.invokevirtual 132, 3) := by decide +kernel
theorem dX7_assign_68 : decode cX7_assign 68 = .ok (.aload_n 0, 1) := by decide +kernel
theorem dX7_assign_69 : decode cX7_assign 69 = .ok (.getfield 27, 3) := by decide +kernel
theorem dX7_assign_72 : decode cX7_assign 72 = .ok (.getfield 109, 3) := by decide +kernel
theorem dX7_assign_75 : decode cX7_assign 75 = .ok (.iload_n 1, 1) := by decide +kernel
theorem dX7_assign_76 : decode cX7_assign 76 = .ok (.iaload, 1) := by decide +kernel
theorem dX7_assign_77 : decode cX7_assign 77 = .ok (.istore_n 3, 1) := by decide +kernel
theorem dX7_assign_78 : decode cX7_assign 78 = .ok (.aload_n 0, 1) := by decide +kernel
theorem dX7_assign_79 : decode cX7_assign 79 = .ok (.getfield 9, 3) := by decide +kernel
theorem dX7_assign_82 : decode cX7_assign 82 = .ok (.iload_n 2, 1) := by decide +kernel
theorem dX7_assign_83 : decode cX7_assign 83 = .ok (.aload_n 0, 1) := by decide +kernel
theorem dX7_assign_84 : decode cX7_assign 84 = .ok (.getfield 9, 3) := by decide +kernel
theorem dX7_assign_87 : decode cX7_assign 87 = .ok (.iload_n 2, 1) := by decide +kernel
theorem dX7_assign_88 : decode cX7_assign 88 = .ok (.iaload, 1) := by decide +kernel
theorem dX7_assign_89 : decode cX7_assign 89 = .ok (.iload_n 3, 1) := by decide +kernel
theorem dX7_assign_90 : decode cX7_assign 90 = .ok (.iconst (-1), 1) := by decide +kernel
theorem dX7_assign_91 : decode cX7_assign 91 = .ok (.ixor, 1) := by decide +kernel
theorem dX7_assign_92 : decode cX7_assign 92 = .ok (.iand, 1) := by decide +kernel
theorem dX7_assign_93 : decode cX7_assign 93 = .ok (.iload_n 3, 1) := by decide +kernel
theorem dX7_assign_94 : decode cX7_assign 94 = .ok (.bipush 16, 2) := by decide +kernel
theorem dX7_assign_96 : decode cX7_assign 96 = .ok (.ishl, 1) := by decide +kernel
theorem dX7_assign_97 : decode cX7_assign 97 = .ok (.ior, 1) := by decide +kernel
theorem dX7_assign_98 : decode cX7_assign 98 = .ok (.iastore, 1) := by decide +kernel
theorem dX7_assign_99 : decode cX7_assign 99 = .ok (.return_, 1) := by decide +kernel
theorem dX7_firstFault_0 : decode cX7_firstFault 0 = .ok (.aload_n 0, 1) := by decide +kernel
theorem dX7_firstFault_1 : decode cX7_firstFault 1 = .ok (.aload_n 1, 1) := by decide +kernel
theorem dX7_firstFault_2 : decode cX7_firstFault 2 = .ok (.putfield 31, 3) := by decide +kernel
theorem dX7_firstFault_5 : decode cX7_firstFault 5 = .ok (.aload_n 0, 1) := by decide +kernel
theorem dX7_firstFault_6 : decode cX7_firstFault 6 = .ok (.iconst (-1), 1) := by decide +kernel
theorem dX7_firstFault_7 : decode cX7_firstFault 7 = .ok (.putfield 35, 3) := by decide +kernel
theorem dX7_firstFault_10 : decode cX7_firstFault 10 = .ok (.aload_n 0, 1) := by decide +kernel
theorem dX7_firstFault_11 : decode cX7_firstFault 11 = .ok (.getfield 16, 3) := by decide +kernel
theorem dX7_firstFault_14 : decode cX7_firstFault 14 = .ok (.aload_n 0, 1) := by decide +kernel
theorem dX7_firstFault_15 : decode cX7_firstFault 15 = .ok (.getfield 31, 3) := by decide +kernel
theorem dX7_firstFault_18 : decode cX7_firstFault 18 = .ok (.getfield 39, 3) := by decide +kernel
theorem dX7_firstFault_21 : decode cX7_firstFault 21 = .ok (.bipush 40, 2) := by decide +kernel
theorem dX7_firstFault_23 : decode cX7_firstFault 23 = .ok (.imul, 1) := by decide +kernel
theorem dX7_firstFault_24 : decode cX7_firstFault 24 = .ok (.aload_n 0, 1) := by decide +kernel
theorem dX7_firstFault_25 : decode cX7_firstFault 25 = .ok (.getfield 31, 3) := by decide +kernel
theorem dX7_firstFault_28 : decode cX7_firstFault 28 = .ok (.getfield 44, 3) := by decide +kernel
theorem dX7_firstFault_31 : decode cX7_firstFault 31 = .ok (.bipush 40, 2) := by decide +kernel
theorem dX7_firstFault_33 : decode cX7_firstFault 33 = .ok (.imul, 1) := by decide +kernel
theorem dX7_firstFault_34 : decode cX7_firstFault 34 = .ok (.iconst 0, 1) := by decide +kernel
theorem dX7_firstFault_35 : decode cX7_firstFault 35 = .ok (.invokestatic 47, 3) := by decide +kernel
theorem dX7_firstFault_38 : decode cX7_firstFault 38 = .ok (.aload_n 0, 1) := by decide +kernel
theorem dX7_firstFault_39 : decode cX7_firstFault 39 = .ok (.getfield 31, 3) := by decide +kernel
theorem dX7_firstFault_42 : decode cX7_firstFault 42 = .ok (.getfield 39, 3) := by decide +kernel
theorem dX7_firstFault_45 : decode cX7_firstFault 45 = .ok (.istore_n 2, 1) := by decide +kernel
theorem dX7_firstFault_46 : decode cX7_firstFault 46 = .ok (.iload_n 2, 1) := by decide +kernel
theorem dX7_firstFault_47 : decode cX7_firstFault 47 = .ok (.aload_n 0, 1) := by decide +kernel
theorem dX7_firstFault_48 : decode cX7_firstFault 48 = .ok (.getfield 31, 3) := by decide +kernel
theorem dX7_firstFault_51 : decode cX7_firstFault 51 = .ok (.getfield 44, 3) := by decide +kernel
theorem dX7_firstFault_54 : decode cX7_firstFault 54 = .ok (.if_icmp .ge 16, 3) := by decide +kernel
theorem dX7_firstFault_57 : decode cX7_firstFault 57 = .ok (.aload_n 0, 1) := by decide +kernel
theorem dX7_firstFault_58 : decode cX7_firstFault 58 = .ok (.getfield 19, 3) := by decide +kernel
theorem dX7_firstFault_61 : decode cX7_firstFault 61 = .ok (.iload_n 2, 1) := by decide +kernel
theorem dX7_firstFault_62 : decode cX7_firstFault 62 = .ok (.iconst 0, 1) := by decide +kernel
theorem dX7_firstFault_63 : decode cX7_firstFault 63 = .ok (.bastore, 1) := by decide +kernel
theorem dX7_firstFault_64 : decode cX7_firstFault 64 = .ok (.iinc 2 1, 3) := by decide +kernel
theorem dX7_firstFault_67 : decode cX7_firstFault 67 = .ok (.goto (-21), 3) := by decide +kernel
theorem dX7_firstFault_70 : decode cX7_firstFault 70 = .ok (.aload_n 0, 1) := by decide +kernel
theorem dX7_firstFault_71 : decode cX7_firstFault 71 = .ok (.iconst 1, 1) := by decide +kernel
theorem dX7_firstFault_72 : decode cX7_firstFault 72 = .ok (.putfield 53, 3) := by decide +kernel
theorem dX7_firstFault_75 : decode cX7_firstFault 75 = .ok (.iconst 0, 1) := by decide +kernel
theorem dX7_firstFault_76 : decode cX7_firstFault 76 = .ok (.istore_n 2, 1) := by decide +kernel
theorem dX7_firstFault_77 : decode cX7_firstFault 77 = .ok (.iload_n 2, 1) := by decide +kernel
theorem dX7_firstFault_78 : decode cX7_firstFault 78 = .ok (.ldc 57, 2) := by decide +kernel
theorem dX7_firstFault_80 : decode cX7_firstFault 80 = .ok (.if_icmp .ge 25, 3) := by decide +kernel
theorem dX7_firstFault_83 : decode cX7_firstFault 83 = .ok (.aload_n 0, 1) := by decide +kernel
theorem dX7_firstFault_84 : decode cX7_firstFault 84 = .ok (.getfield 53, 3) := by decide +kernel
theorem dX7_firstFault_87 : decode cX7_firstFault 87 = .ok (.ifCond .eq 18, 3) := by decide +kernel
theorem dX7_firstFault_90 : decode cX7_firstFault 90 = .ok (.aload_n 0, 1) := by decide +kernel
theorem dX7_firstFault_91 : decode cX7_firstFault 91 = .ok (.iconst 0, 1) := by decide +kernel
theorem dX7_firstFault_92 : decode cX7_firstFault 92 = .ok (.putfield 53, 3) := by decide +kernel
theorem dX7_firstFault_95 : decode cX7_firstFault 95 = .ok (.aload_n 0, 1) := by decide +kernel
theorem dX7_firstFault_96 : decode cX7_firstFault 96 = .ok (.invokevirtual 58, 3) := by decide +kernel
theorem dX7_firstFault_99 : decode cX7_firstFault 99 = .ok (.iinc 2 1, 3) := by decide +kernel
theorem dX7_firstFault_102 : decode cX7_firstFault 102 = .ok (.goto (-25), 3) := by decide +kernel
theorem dX7_firstFault_105 : decode cX7_firstFault 105 = .ok (.aload_n 0, 1) := by decide +kernel
theorem dX7_firstFault_106 : decode cX7_firstFault 106 = .ok (.getfield 35, 3) := by decide +kernel
theorem dX7_firstFault_109 : decode cX7_firstFault 109 = .ok (.ireturn, 1) := by decide +kernel
theorem dX7_flow_0 : decode cX7_flow 0 = .ok (.aload_n 0, 1) := by decide +kernel
theorem dX7_flow_1 : decode cX7_flow 1 = .ok (.getfield 27, 3) := by decide +kernel
theorem dX7_flow_4 : decode cX7_flow 4 = .ok (.getfield 85, 3) := by decide +kernel
theorem dX7_flow_7 : decode cX7_flow 7 = .ok (.iload_n 1, 1) := by decide +kernel
theorem dX7_flow_8 : decode cX7_flow 8 = .ok (.iaload, 1) := by decide +kernel
theorem dX7_flow_9 : decode cX7_flow 9 = .ok (.istore_n 2, 1) := by decide +kernel
theorem dX7_flow_10 : decode cX7_flow 10 = .ok (.aload_n 0, 1) := by decide +kernel
theorem dX7_flow_11 : decode cX7_flow 11 = .ok (.getfield 27, 3) := by decide +kernel
theorem dX7_flow_14 : decode cX7_flow 14 = .ok (.getfield 80, 3) := by decide +kernel
theorem dX7_flow_17 : decode cX7_flow 17 = .ok (.iload_n 1, 1) := by decide +kernel
theorem dX7_flow_18 : decode cX7_flow 18 = .ok (.iaload, 1) := by decide +kernel
theorem dX7_flow_19 : decode cX7_flow 19 = .ok (.tableswitch 161 15 22 #[68, 54, 45, 45, 45, 100, 161, 153], 45) := by decide +kernel
theorem dX7_flow_64 : decode cX7_flow 64 = .ok (.aload_n 0, 1) := by decide +kernel
theorem dX7_flow_65 : decode cX7_flow 65 = .ok (.iload_n 2, 1) := by decide +kernel
theorem dX7_flow_66 : decode cX7_flow 66 = .ok (.invokevirtual 122, 3) := by decide +kernel
theorem dX7_flow_69 : decode cX7_flow 69 = .ok (.pop, 1) := by decide +kernel
theorem dX7_flow_70 : decode cX7_flow 70 = .ok (.goto 110, 3) := by decide +kernel
theorem dX7_flow_73 : decode cX7_flow 73 = .ok (.aload_n 0, 1) := by decide +kernel
theorem dX7_flow_74 : decode cX7_flow 74 = .ok (.iload_n 2, 1) := by decide +kernel
theorem dX7_flow_75 : decode cX7_flow 75 = .ok (.invokevirtual 122, 3) := by decide +kernel
theorem dX7_flow_78 : decode cX7_flow 78 = .ok (.pop, 1) := by decide +kernel
theorem dX7_flow_79 : decode cX7_flow 79 = .ok (.aload_n 0, 1) := by decide +kernel
theorem dX7_flow_80 : decode cX7_flow 80 = .ok (.iconst 0, 1) := by decide +kernel
theorem dX7_flow_81 : decode cX7_flow 81 = .ok (.putfield 61, 3) := by decide +kernel
theorem dX7_flow_84 : decode cX7_flow 84 = .ok (.goto 96, 3) := by decide +kernel
theorem dX7_flow_87 : decode cX7_flow 87 = .ok (.aload_n 0, 1) := by decide +kernel
theorem dX7_flow_88 : decode cX7_flow 88 = .ok (.aload_n 0, 1) := by decide +kernel
theorem dX7_flow_89 : decode cX7_flow 89 = .ok (.iload_n 2, 1) := by decide +kernel
theorem dX7_flow_90 : decode cX7_flow 90 = .ok (.invokevirtual 122, 3) := by decide +kernel
theorem dX7_flow_93 : decode cX7_flow 93 = .ok (.ifCond .ne 10, 3) := by decide +kernel
theorem dX7_flow_96 : decode cX7_flow 96 = .ok (.aload_n 0, 1) := by decide +kernel
theorem dX7_flow_97 : decode cX7_flow 97 = .ok (.getfield 53, 3) := by decide +kernel
theorem dX7_flow_100 : decode cX7_flow 100 = .ok (.ifCond .eq 7, 3) := by decide +kernel
theorem dX7_flow_103 : decode cX7_flow 103 = .ok (.iconst 1, 1) := by decide +kernel
theorem dX7_flow_104 : decode cX7_flow 104 = .ok (.goto 4, 3) := by decide +kernel
theorem dX7_flow_107 : decode cX7_flow 107 = .ok (.iconst 0, 1) := by decide +kernel
theorem dX7_flow_108 : decode cX7_flow 108 = .ok (.putfield 53, 3) := by decide +kernel
theorem dX7_flow_111 : decode cX7_flow 111 = .ok (.aload_n 0, 1) := by decide +kernel
theorem dX7_flow_112 : decode cX7_flow 112 = .ok (.iconst 0, 1) := by decide +kernel
theorem dX7_flow_113 : decode cX7_flow 113 = .ok (.putfield 61, 3) := by decide +kernel
theorem dX7_flow_116 : decode cX7_flow 116 = .ok (.goto 64, 3) := by decide +kernel
theorem dX7_flow_119 : decode cX7_flow 119 = .ok (.iconst 0, 1) := by decide +kernel
theorem dX7_flow_120 : decode cX7_flow 120 = .ok (.istore_n 3, 1) := by decide +kernel
theorem dX7_flow_121 : decode cX7_flow 121 = .ok (.iload_n 3, 1) := by decide +kernel
theorem dX7_flow_122 : decode cX7_flow 122 = .ok (.aload_n 0, 1) := by decide +kernel
theorem dX7_flow_123 : decode cX7_flow 123 = .ok (.getfield 27, 3) := by decide +kernel
theorem dX7_flow_126 : decode cX7_flow 126 = .ok (.getfield 126, 3) := by decide +kernel
theorem dX7_flow_129 : decode cX7_flow 129 = .ok (.iload_n 1, 1) := by decide +kernel
theorem dX7_flow_130 : decode cX7_flow 130 = .ok (.iaload, 1) := by decide +kernel
theorem dX7_flow_131 : decode cX7_flow 131 = .ok (.if_icmp .ge 33, 3) := by decide +kernel
theorem dX7_flow_134 : decode cX7_flow 134 = .ok (.aload_n 0, 1) := by decide +kernel
theorem dX7_flow_135 : decode cX7_flow 135 = .ok (.aload_n 0, 1) := by decide +kernel
theorem dX7_flow_136 : decode cX7_flow 136 = .ok (.getfield 27, 3) := by decide +kernel
theorem dX7_flow_139 : decode cX7_flow 139 = .ok (.getfield 129, 3) := by decide +kernel
theorem dX7_flow_142 : decode cX7_flow 142 = .ok (.aload_n 0, 1) := by decide +kernel
theorem dX7_flow_143 : decode cX7_flow 143 = .ok (.getfield 27, 3) := by decide +kernel
theorem dX7_flow_146 : decode cX7_flow 146 = .ok (.getfield 85, 3) := by decide +kernel
theorem dX7_flow_149 : decode cX7_flow 149 = .ok (.iload_n 1, 1) := by decide +kernel
theorem dX7_flow_150 : decode cX7_flow 150 = .ok (.iaload, 1) := by decide +kernel
theorem dX7_flow_151 : decode cX7_flow 151 = .ok (.iload_n 3, 1) := by decide +kernel
theorem dX7_flow_152 : decode cX7_flow 152 = .ok (.iadd, 1) := by decide +kernel
theorem dX7_flow_153 : decode cX7_flow 153 = .ok (.iaload, 1) := by decide +kernel
theorem dX7_flow_154 : decode cX7_flow 154 = .ok (.invokevirtual 122, 3) := by decide +kernel
theorem dX7_flow_157 : decode cX7_flow 157 = .ok (.pop, 1) := by decide +kernel
theorem dX7_flow_158 : decode cX7_flow 158 = .ok (.iinc 3 1, 3) := by decide +kernel
theorem dX7_flow_161 : decode cX7_flow 161 = .ok (.goto (-40), 3) := by decide +kernel
theorem dX7_flow_164 : decode cX7_flow 164 = .ok (.aload_n 0, 1) := by decide +kernel
theorem dX7_flow_165 : decode cX7_flow 165 = .ok (.iconst 0, 1) := by decide +kernel
theorem dX7_flow_166 : decode cX7_flow 166 = .ok (.putfield 61, 3) := by decide +kernel
theorem dX7_flow_169 : decode cX7_flow 169 = .ok (.goto 11, 3) := by decide +kernel
theorem dX7_flow_172 : decode cX7_flow 172 = .ok (.aload_n 0, 1) := by decide +kernel
theorem dX7_flow_173 : decode cX7_flow 173 = .ok (.iconst 0, 1) := by decide +kernel
theorem dX7_flow_174 : decode cX7_flow 174 = .ok (.putfield 61, 3) := by decide +kernel
theorem dX7_flow_177 : decode cX7_flow 177 = .ok (.goto 3, 3) := by decide +kernel
theorem dX7_flow_180 : decode cX7_flow 180 = .ok (.return_, 1) := by decide +kernel
theorem dX7_full_0 : decode cX7_full 0 = .ok (.aload_n 0, 1) := by decide +kernel
theorem dX7_full_1 : decode cX7_full 1 = .ok (.getfield 31, 3) := by decide +kernel
theorem dX7_full_4 : decode cX7_full 4 = .ok (.getfield 95, 3) := by decide +kernel
theorem dX7_full_7 : decode cX7_full 7 = .ok (.iload_n 1, 1) := by decide +kernel
theorem dX7_full_8 : decode cX7_full 8 = .ok (.iaload, 1) := by decide +kernel
theorem dX7_full_9 : decode cX7_full 9 = .ok (.iconst (-1), 1) := by decide +kernel
theorem dX7_full_10 : decode cX7_full 10 = .ok (.if_icmp .ne 7, 3) := by decide +kernel
theorem dX7_full_13 : decode cX7_full 13 = .ok (.iconst 0, 1) := by decide +kernel
theorem dX7_full_14 : decode cX7_full 14 = .ok (.goto 24, 3) := by decide +kernel
theorem dX7_full_17 : decode cX7_full 17 = .ok (.iconst 1, 1) := by decide +kernel
theorem dX7_full_18 : decode cX7_full 18 = .ok (.aload_n 0, 1) := by decide +kernel
theorem dX7_full_19 : decode cX7_full 19 = .ok (.getfield 23, 3) := by decide +kernel
theorem dX7_full_22 : decode cX7_full 22 = .ok (.getfield 98, 3) := by decide +kernel
theorem dX7_full_25 : decode cX7_full 25 = .ok (.aload_n 0, 1) := by decide +kernel
theorem dX7_full_26 : decode cX7_full 26 = .ok (.getfield 31, 3) := by decide +kernel
theorem dX7_full_29 : decode cX7_full 29 = .ok (.getfield 95, 3) := by decide +kernel
theorem dX7_full_32 : decode cX7_full 32 = .ok (.iload_n 1, 1) := by decide +kernel
theorem dX7_full_33 : decode cX7_full 33 = .ok (.iaload, 1) := by decide +kernel
theorem dX7_full_34 : decode cX7_full 34 = .ok (.iaload, 1) := by decide +kernel
theorem dX7_full_35 : decode cX7_full 35 = .ok (.ishl, 1) := by decide +kernel
theorem dX7_full_36 : decode cX7_full 36 = .ok (.iconst 1, 1) := by decide +kernel
theorem dX7_full_37 : decode cX7_full 37 = .ok (.isub, 1) := by decide +kernel
theorem dX7_full_38 : decode cX7_full 38 = .ok (.ireturn, 1) := by decide +kernel
theorem dX7_init_0 : decode cX7_init 0 = .ok (.aload_n 0, 1) := by decide +kernel
theorem dX7_init_1 : decode cX7_init 1 = .ok (.invokespecial 3, 3) := by decide +kernel
theorem dX7_init_4 : decode cX7_init 4 = .ok (.aload_n 0, 1) := by decide +kernel
theorem dX7_init_5 : decode cX7_init 5 = .ok (.bipush 40, 2) := by decide +kernel
theorem dX7_init_7 : decode cX7_init 7 = .ok (.newarray .int, 2) := by decide +kernel
theorem dX7_init_9 : decode cX7_init 9 = .ok (.putfield 9, 3) := by decide +kernel
theorem dX7_init_12 : decode cX7_init 12 = .ok (.aload_n 0, 1) := by decide +kernel
theorem dX7_init_13 : decode cX7_init 13 = .ok (.ldc 15, 2) := by decide +kernel
theorem dX7_init_15 : decode cX7_init 15 = .ok (.newarray .int, 2) := by decide +kernel
theorem dX7_init_17 : decode cX7_init 17 = .ok (.putfield 16, 3) := by decide +kernel
theorem dX7_init_20 : decode cX7_init 20 = .ok (.aload_n 0, 1) := by decide +kernel
theorem dX7_init_21 : decode cX7_init 21 = .ok (.sipush 1100, 3) := by decide +kernel
theorem dX7_init_24 : decode cX7_init 24 = .ok (.newarray .boolean, 2) := by decide +kernel
theorem dX7_init_26 : decode cX7_init 26 = .ok (.putfield 19, 3) := by decide +kernel
theorem dX7_init_29 : decode cX7_init 29 = .ok (.aload_n 0, 1) := by decide +kernel
theorem dX7_init_30 : decode cX7_init 30 = .ok (.aload_n 1, 1) := by decide +kernel
theorem dX7_init_31 : decode cX7_init 31 = .ok (.putfield 23, 3) := by decide +kernel
theorem dX7_init_34 : decode cX7_init 34 = .ok (.aload_n 0, 1) := by decide +kernel
theorem dX7_init_35 : decode cX7_init 35 = .ok (.aload_n 2, 1) := by decide +kernel
theorem dX7_init_36 : decode cX7_init 36 = .ok (.putfield 27, 3) := by decide +kernel
theorem dX7_init_39 : decode cX7_init 39 = .ok (.return_, 1) := by decide +kernel
theorem dX7_join_0 : decode cX7_join 0 = .ok (.aload_n 0, 1) := by decide +kernel
theorem dX7_join_1 : decode cX7_join 1 = .ok (.getfield 19, 3) := by decide +kernel
theorem dX7_join_4 : decode cX7_join 4 = .ok (.iload_n 1, 1) := by decide +kernel
theorem dX7_join_5 : decode cX7_join 5 = .ok (.baload, 1) := by decide +kernel
theorem dX7_join_6 : decode cX7_join 6 = .ok (.ifCond .ne 4, 3) := by decide +kernel
theorem dX7_join_9 : decode cX7_join 9 = .ok (.return_, 1) := by decide +kernel
theorem dX7_join_10 : decode cX7_join 10 = .ok (.iload_n 1, 1) := by decide +kernel
theorem dX7_join_11 : decode cX7_join 11 = .ok (.bipush 40, 2) := by decide +kernel
theorem dX7_join_13 : decode cX7_join 13 = .ok (.imul, 1) := by decide +kernel
theorem dX7_join_14 : decode cX7_join 14 = .ok (.istore_n 2, 1) := by decide +kernel
theorem dX7_join_15 : decode cX7_join 15 = .ok (.iconst 0, 1) := by decide +kernel
theorem dX7_join_16 : decode cX7_join 16 = .ok (.istore_n 3, 1) := by decide +kernel
theorem dX7_join_17 : decode cX7_join 17 = .ok (.iload_n 3, 1) := by decide +kernel
theorem dX7_join_18 : decode cX7_join 18 = .ok (.aload_n 0, 1) := by decide +kernel
theorem dX7_join_19 : decode cX7_join 19 = .ok (.getfield 31, 3) := by decide +kernel
theorem dX7_join_22 : decode cX7_join 22 = .ok (.getfield 64, 3) := by decide +kernel
theorem dX7_join_25 : decode cX7_join 25 = .ok (.if_icmp .ge 48, 3) := by decide +kernel
theorem dX7_join_28 : decode cX7_join 28 = .ok (.aload_n 0, 1) := by decide +kernel
theorem dX7_join_29 : decode cX7_join 29 = .ok (.getfield 9, 3) := by decide +kernel
theorem dX7_join_32 : decode cX7_join 32 = .ok (.iload_n 3, 1) := by decide +kernel
theorem dX7_join_33 : decode cX7_join 33 = .ok (.aload_n 0, 1) := by decide +kernel
theorem dX7_join_34 : decode cX7_join 34 = .ok (.getfield 61, 3) := by decide +kernel
theorem dX7_join_37 : decode cX7_join 37 = .ok (.ifCond .eq 21, 3) := by decide +kernel
theorem dX7_join_40 : decode cX7_join 40 = .ok (.aload_n 0, 1) := by decide +kernel
theorem dX7_join_41 : decode cX7_join 41 = .ok (.getfield 9, 3) := by decide +kernel
theorem dX7_join_44 : decode cX7_join 44 = .ok (.iload_n 3, 1) := by decide +kernel
theorem dX7_join_45 : decode cX7_join 45 = .ok (.iaload, 1) := by decide +kernel
theorem dX7_join_46 : decode cX7_join 46 = .ok (.aload_n 0, 1) := by decide +kernel
theorem dX7_join_47 : decode cX7_join 47 = .ok (.getfield 16, 3) := by decide +kernel
theorem dX7_join_50 : decode cX7_join 50 = .ok (.iload_n 2, 1) := by decide +kernel
theorem dX7_join_51 : decode cX7_join 51 = .ok (.iload_n 3, 1) := by decide +kernel
theorem dX7_join_52 : decode cX7_join 52 = .ok (.iadd, 1) := by decide +kernel
theorem dX7_join_53 : decode cX7_join 53 = .ok (.iaload, 1) := by decide +kernel
theorem dX7_join_54 : decode cX7_join 54 = .ok (.ior, 1) := by decide +kernel
theorem dX7_join_55 : decode cX7_join 55 = .ok (.goto 11, 3) := by decide +kernel
theorem dX7_join_58 : decode cX7_join 58 = .ok (.aload_n 0, 1) := by decide +kernel
theorem dX7_join_59 : decode cX7_join 59 = .ok (.getfield 16, 3) := by decide +kernel
theorem dX7_join_62 : decode cX7_join 62 = .ok (.iload_n 2, 1) := by decide +kernel
theorem dX7_join_63 : decode cX7_join 63 = .ok (.iload_n 3, 1) := by decide +kernel
theorem dX7_join_64 : decode cX7_join 64 = .ok (.iadd, 1) := by decide +kernel
theorem dX7_join_65 : decode cX7_join 65 = .ok (.iaload, 1) := by decide +kernel
theorem dX7_join_66 : decode cX7_join 66 = .ok (.iastore, 1) := by decide +kernel
theorem dX7_join_67 : decode cX7_join 67 = .ok (.iinc 3 1, 3) := by decide +kernel
theorem dX7_join_70 : decode cX7_join 70 = .ok (.goto (-53), 3) := by decide +kernel
theorem dX7_join_73 : decode cX7_join 73 = .ok (.aload_n 0, 1) := by decide +kernel
theorem dX7_join_74 : decode cX7_join 74 = .ok (.iconst 1, 1) := by decide +kernel
theorem dX7_join_75 : decode cX7_join 75 = .ok (.putfield 61, 3) := by decide +kernel
theorem dX7_join_78 : decode cX7_join 78 = .ok (.return_, 1) := by decide +kernel
theorem dX7_look_0 : decode cX7_look 0 = .ok (.aload_n 0, 1) := by decide +kernel
theorem dX7_look_1 : decode cX7_look 1 = .ok (.getfield 27, 3) := by decide +kernel
theorem dX7_look_4 : decode cX7_look 4 = .ok (.getfield 85, 3) := by decide +kernel
theorem dX7_look_7 : decode cX7_look 7 = .ok (.iload_n 1, 1) := by decide +kernel
theorem dX7_look_8 : decode cX7_look 8 = .ok (.iaload, 1) := by decide +kernel
theorem dX7_look_9 : decode cX7_look 9 = .ok (.istore_n 2, 1) := by decide +kernel
theorem dX7_look_10 : decode cX7_look 10 = .ok (.aload_n 0, 1) := by decide +kernel
theorem dX7_look_11 : decode cX7_look 11 = .ok (.getfield 27, 3) := by decide +kernel
theorem dX7_look_14 : decode cX7_look 14 = .ok (.getfield 80, 3) := by decide +kernel
theorem dX7_look_17 : decode cX7_look 17 = .ok (.iload_n 1, 1) := by decide +kernel
theorem dX7_look_18 : decode cX7_look 18 = .ok (.iaload, 1) := by decide +kernel
theorem dX7_look_19 : decode cX7_look 19 = .ok (.tableswitch 206 2 30 #[129, 137, 129, 206, 206, 206, 206, 206, 206, 206, 206, 206, 206, 206, 206, 206, 206, 206, 206, 206, 206, 206, 167, 184, 198, 206, 206, 167, 167], 129) := by decide +kernel
theorem dX7_look_148 : decode cX7_look 148 = .ok (.aload_n 0, 1) := by decide +kernel
theorem dX7_look_149 : decode cX7_look 149 = .ok (.iload_n 2, 1) := by decide +kernel
theorem dX7_look_150 : decode cX7_look 150 = .ok (.invokevirtual 103, 3) := by decide +kernel
theorem dX7_look_153 : decode cX7_look 153 = .ok (.goto 77, 3) := by decide +kernel
theorem dX7_look_156 : decode cX7_look 156 = .ok (.aload_n 0, 1) := by decide +kernel
theorem dX7_look_157 : decode cX7_look 157 = .ok (.iload_n 2, 1) := by decide +kernel
theorem dX7_look_158 : decode cX7_look 158 = .ok (.invokevirtual 103, 3) := by decide +kernel
theorem dX7_look_161 : decode cX7_look 161 = .ok (.aload_n 0, 1) := by decide +kernel
theorem dX7_look_162 : decode cX7_look 162 = .ok (.aload_n 0, 1) := by decide +kernel
theorem dX7_look_163 : decode cX7_look 163 = .ok (.getfield 27, 3) := by decide +kernel
theorem dX7_look_166 : decode cX7_look 166 = .ok (.getfield 106, 3) := by decide +kernel
theorem dX7_look_169 : decode cX7_look 169 = .ok (.iload_n 2, 1) := by decide +kernel
theorem dX7_look_170 : decode cX7_look 170 = .ok (.iaload, 1) := by decide +kernel
theorem dX7_look_171 : decode cX7_look 171 = .ok (.aload_n 0, 1) := by decide +kernel
theorem dX7_look_172 : decode cX7_look 172 = .ok (.getfield 27, 3) := by decide +kernel
theorem dX7_look_175 : decode cX7_look 175 = .ok (.getfield 109, 3) := by decide +kernel
theorem dX7_look_178 : decode cX7_look 178 = .ok (.iload_n 2, 1) := by decide +kernel
theorem dX7_look_179 : decode cX7_look 179 = .ok (.iaload, 1) := by decide +kernel
theorem dX7_look_180 : decode cX7_look 180 = .ok (.invokevirtual 112, 3) := by decide +kernel
theorem dX7_look_183 : decode cX7_look 183 = .ok (.goto 47, 3) := by decide +kernel
theorem dX7_look_186 : decode cX7_look 186 = .ok (.aload_n 0, 1) := by decide +kernel
theorem dX7_look_187 : decode cX7_look 187 = .ok (.getfield 9, 3) := by decide +kernel
theorem dX7_look_190 : decode cX7_look 190 = .ok (.iload_n 2, 1) := by decide +kernel
theorem dX7_look_191 : decode cX7_look 191 = .ok (.aload_n 0, 1) := by decide +kernel
theorem dX7_look_192 : decode cX7_look 192 = .ok (.iload_n 2, 1) := by decide +kernel
theorem dX7_look_193 : decode cX7_look 193 = .ok (.invokevirtual 70, 3) := by decide +kernel
theorem dX7_look_196 : decode cX7_look 196 = .ok (.bipush 16, 2) := by decide +kernel
theorem dX7_look_198 : decode cX7_look 198 = .ok (.ishl, 1) := by decide +kernel
theorem dX7_look_199 : decode cX7_look 199 = .ok (.iastore, 1) := by decide +kernel
theorem dX7_look_200 : decode cX7_look 200 = .ok (.goto 30, 3) := by decide +kernel
theorem dX7_look_203 : decode cX7_look 203 = .ok (.aload_n 0, 1) := by decide +kernel
theorem dX7_look_204 : decode cX7_look 204 = .ok (.getfield 9, 3) := by decide +kernel
theorem dX7_look_207 : decode cX7_look 207 = .ok (.iload_n 2, 1) := by decide +kernel
theorem dX7_look_208 : decode cX7_look 208 = .ok (.aload_n 0, 1) := by decide +kernel
theorem dX7_look_209 : decode cX7_look 209 = .ok (.iload_n 2, 1) := by decide +kernel
theorem dX7_look_210 : decode cX7_look 210 = .ok (.invokevirtual 70, 3) := by decide +kernel
theorem dX7_look_213 : decode cX7_look 213 = .ok (.iastore, 1) := by decide +kernel
theorem dX7_look_214 : decode cX7_look 214 = .ok (.goto 16, 3) := by decide +kernel
theorem dX7_look_217 : decode cX7_look 217 = .ok (.aload_n 0, 1) := by decide +kernel
theorem dX7_look_218 : decode cX7_look 218 = .ok (.iload_n 2, 1) := by decide +kernel
theorem dX7_look_219 : decode cX7_look 219 = .ok (.invokevirtual 116, 3) := by decide +kernel
theorem dX7_look_222 : decode cX7_look 222 = .ok (.goto 8, 3) := by decide +kernel
theorem dX7_look_225 : decode cX7_look 225 = .ok (.aload_n 0, 1) := by decide +kernel
theorem dX7_look_226 : decode cX7_look 226 = .ok (.iload_n 1, 1) := by decide +kernel
theorem dX7_look_227 : decode cX7_look 227 = .ok (.invokevirtual 119, 3) := by decide +kernel
theorem dX7_look_230 : decode cX7_look 230 = .ok (.return_, 1) := by decide +kernel
theorem dX7_lose_0 : decode cX7_lose 0 = .ok (.aload_n 0, 1) := by decide +kernel
theorem dX7_lose_1 : decode cX7_lose 1 = .ok (.getfield 9, 3) := by decide +kernel
theorem dX7_lose_4 : decode cX7_lose 4 = .ok (.iload_n 1, 1) := by decide +kernel
theorem dX7_lose_5 : decode cX7_lose 5 = .ok (.aload_n 0, 1) := by decide +kernel
theorem dX7_lose_6 : decode cX7_lose 6 = .ok (.getfield 9, 3) := by decide +kernel
theorem dX7_lose_9 : decode cX7_lose 9 = .ok (.iload_n 1, 1) := by decide +kernel
theorem dX7_lose_10 : decode cX7_lose 10 = .ok (.iaload, 1) := by decide +kernel
theorem dX7_lose_11 : decode cX7_lose 11 = .ok (.iload_n 2, 1) := by decide +kernel
theorem dX7_lose_12 : decode cX7_lose 12 = .ok (.ior, 1) := by decide +kernel
theorem dX7_lose_13 : decode cX7_lose 13 = .ok (.iload_n 2, 1) := by decide +kernel
theorem dX7_lose_14 : decode cX7_lose 14 = .ok (.bipush 16, 2) := by decide +kernel
theorem dX7_lose_16 : decode cX7_lose 16 = .ok (.ishl, 1) := by decide +kernel
theorem dX7_lose_17 : decode cX7_lose 17 = .ok (.iconst (-1), 1) := by decide +kernel
theorem dX7_lose_18 : decode cX7_lose 18 = .ok (.ixor, 1) := by decide +kernel
theorem dX7_lose_19 : decode cX7_lose 19 = .ok (.iand, 1) := by decide +kernel
theorem dX7_lose_20 : decode cX7_lose 20 = .ok (.iastore, 1) := by decide +kernel
theorem dX7_lose_21 : decode cX7_lose 21 = .ok (.return_, 1) := by decide +kernel
theorem dX7_pass_0 : decode cX7_pass 0 = .ok (.aload_n 0, 1) := by decide +kernel
theorem dX7_pass_1 : decode cX7_pass 1 = .ok (.iconst 1, 1) := by decide +kernel
theorem dX7_pass_2 : decode cX7_pass 2 = .ok (.putfield 61, 3) := by decide +kernel
theorem dX7_pass_5 : decode cX7_pass 5 = .ok (.iconst 0, 1) := by decide +kernel
theorem dX7_pass_6 : decode cX7_pass 6 = .ok (.istore_n 1, 1) := by decide +kernel
theorem dX7_pass_7 : decode cX7_pass 7 = .ok (.iload_n 1, 1) := by decide +kernel
theorem dX7_pass_8 : decode cX7_pass 8 = .ok (.aload_n 0, 1) := by decide +kernel
theorem dX7_pass_9 : decode cX7_pass 9 = .ok (.getfield 31, 3) := by decide +kernel
theorem dX7_pass_12 : decode cX7_pass 12 = .ok (.getfield 64, 3) := by decide +kernel
theorem dX7_pass_15 : decode cX7_pass 15 = .ok (.if_icmp .ge 38, 3) := by decide +kernel
theorem dX7_pass_18 : decode cX7_pass 18 = .ok (.aload_n 0, 1) := by decide +kernel
theorem dX7_pass_19 : decode cX7_pass 19 = .ok (.getfield 9, 3) := by decide +kernel
theorem dX7_pass_22 : decode cX7_pass 22 = .ok (.iload_n 1, 1) := by decide +kernel
theorem dX7_pass_23 : decode cX7_pass 23 = .ok (.iload_n 1, 1) := by decide +kernel
theorem dX7_pass_24 : decode cX7_pass 24 = .ok (.aload_n 0, 1) := by decide +kernel
theorem dX7_pass_25 : decode cX7_pass 25 = .ok (.getfield 31, 3) := by decide +kernel
theorem dX7_pass_28 : decode cX7_pass 28 = .ok (.getfield 67, 3) := by decide +kernel
theorem dX7_pass_31 : decode cX7_pass 31 = .ok (.if_icmp .ge 14, 3) := by decide +kernel
theorem dX7_pass_34 : decode cX7_pass 34 = .ok (.aload_n 0, 1) := by decide +kernel
theorem dX7_pass_35 : decode cX7_pass 35 = .ok (.iload_n 1, 1) := by decide +kernel
theorem dX7_pass_36 : decode cX7_pass 36 = .ok (.invokevirtual 70, 3) := by decide +kernel
theorem dX7_pass_39 : decode cX7_pass 39 = .ok (.bipush 16, 2) := by decide +kernel
theorem dX7_pass_41 : decode cX7_pass 41 = .ok (.ishl, 1) := by decide +kernel
theorem dX7_pass_42 : decode cX7_pass 42 = .ok (.goto 4, 3) := by decide +kernel
theorem dX7_pass_45 : decode cX7_pass 45 = .ok (.iconst 0, 1) := by decide +kernel
theorem dX7_pass_46 : decode cX7_pass 46 = .ok (.iastore, 1) := by decide +kernel
theorem dX7_pass_47 : decode cX7_pass 47 = .ok (.iinc 1 1, 3) := by decide +kernel
theorem dX7_pass_50 : decode cX7_pass 50 = .ok (.goto (-43), 3) := by decide +kernel
theorem dX7_pass_53 : decode cX7_pass 53 = .ok (.aload_n 0, 1) := by decide +kernel
theorem dX7_pass_54 : decode cX7_pass 54 = .ok (.getfield 31, 3) := by decide +kernel
theorem dX7_pass_57 : decode cX7_pass 57 = .ok (.getfield 74, 3) := by decide +kernel
theorem dX7_pass_60 : decode cX7_pass 60 = .ok (.istore_n 1, 1) := by decide +kernel
theorem dX7_pass_61 : decode cX7_pass 61 = .ok (.iload_n 1, 1) := by decide +kernel
theorem dX7_pass_62 : decode cX7_pass 62 = .ok (.aload_n 0, 1) := by decide +kernel
theorem dX7_pass_63 : decode cX7_pass 63 = .ok (.getfield 31, 3) := by decide +kernel
theorem dX7_pass_66 : decode cX7_pass 66 = .ok (.getfield 77, 3) := by decide +kernel
theorem dX7_pass_69 : decode cX7_pass 69 = .ok (.if_icmp .ge 65, 3) := by decide +kernel
theorem dX7_pass_72 : decode cX7_pass 72 = .ok (.aload_n 0, 1) := by decide +kernel
theorem dX7_pass_73 : decode cX7_pass 73 = .ok (.getfield 27, 3) := by decide +kernel
theorem dX7_pass_76 : decode cX7_pass 76 = .ok (.getfield 80, 3) := by decide +kernel
theorem dX7_pass_79 : decode cX7_pass 79 = .ok (.iload_n 1, 1) := by decide +kernel
theorem dX7_pass_80 : decode cX7_pass 80 = .ok (.iaload, 1) := by decide +kernel
theorem dX7_pass_81 : decode cX7_pass 81 = .ok (.bipush 13, 2) := by decide +kernel
theorem dX7_pass_83 : decode cX7_pass 83 = .ok (.if_icmp .eq 17, 3) := by decide +kernel
theorem dX7_pass_86 : decode cX7_pass 86 = .ok (.aload_n 0, 1) := by decide +kernel
theorem dX7_pass_87 : decode cX7_pass 87 = .ok (.getfield 27, 3) := by decide +kernel
theorem dX7_pass_90 : decode cX7_pass 90 = .ok (.getfield 80, 3) := by decide +kernel
theorem dX7_pass_93 : decode cX7_pass 93 = .ok (.iload_n 1, 1) := by decide +kernel
theorem dX7_pass_94 : decode cX7_pass 94 = .ok (.iaload, 1) := by decide +kernel
theorem dX7_pass_95 : decode cX7_pass 95 = .ok (.bipush 14, 2) := by decide +kernel
theorem dX7_pass_97 : decode cX7_pass 97 = .ok (.if_icmp .ne 19, 3) := by decide +kernel
theorem dX7_pass_100 : decode cX7_pass 100 = .ok (.aload_n 0, 1) := by decide +kernel
theorem dX7_pass_101 : decode cX7_pass 101 = .ok (.aload_n 0, 1) := by decide +kernel
theorem dX7_pass_102 : decode cX7_pass 102 = .ok (.getfield 27, 3) := by decide +kernel
theorem dX7_pass_105 : decode cX7_pass 105 = .ok (.getfield 85, 3) := by decide +kernel
theorem dX7_pass_108 : decode cX7_pass 108 = .ok (.iload_n 1, 1) := by decide +kernel
theorem dX7_pass_109 : decode cX7_pass 109 = .ok (.iaload, 1) := by decide +kernel
theorem dX7_pass_110 : decode cX7_pass 110 = .ok (.invokevirtual 88, 3) := by decide +kernel
theorem dX7_pass_113 : decode cX7_pass 113 = .ok (.goto 15, 3) := by decide +kernel
theorem dX7_pass_116 : decode cX7_pass 116 = .ok (.aload_n 0, 1) := by decide +kernel
theorem dX7_pass_117 : decode cX7_pass 117 = .ok (.getfield 61, 3) := by decide +kernel
theorem dX7_pass_120 : decode cX7_pass 120 = .ok (.ifCond .eq 8, 3) := by decide +kernel
theorem dX7_pass_123 : decode cX7_pass 123 = .ok (.aload_n 0, 1) := by decide +kernel
theorem dX7_pass_124 : decode cX7_pass 124 = .ok (.iload_n 1, 1) := by decide +kernel
theorem dX7_pass_125 : decode cX7_pass 125 = .ok (.invokevirtual 92, 3) := by decide +kernel
theorem dX7_pass_128 : decode cX7_pass 128 = .ok (.iinc 1 1, 3) := by decide +kernel
theorem dX7_pass_131 : decode cX7_pass 131 = .ok (.goto (-70), 3) := by decide +kernel
theorem dX7_pass_134 : decode cX7_pass 134 = .ok (.return_, 1) := by decide +kernel
theorem dX7_send_0 : decode cX7_send 0 = .ok (.aload_n 0, 1) := by decide +kernel
theorem dX7_send_1 : decode cX7_send 1 = .ok (.getfield 19, 3) := by decide +kernel
theorem dX7_send_4 : decode cX7_send 4 = .ok (.iload_n 1, 1) := by decide +kernel
theorem dX7_send_5 : decode cX7_send 5 = .ok (.baload, 1) := by decide +kernel
theorem dX7_send_6 : decode cX7_send 6 = .ok (.ifCond .ne 7, 3) := by decide +kernel
theorem dX7_send_9 : decode cX7_send 9 = .ok (.iconst 1, 1) := by decide +kernel
theorem dX7_send_10 : decode cX7_send 10 = .ok (.goto 4, 3) := by decide +kernel
theorem dX7_send_13 : decode cX7_send 13 = .ok (.iconst 0, 1) := by decide +kernel
theorem dX7_send_14 : decode cX7_send 14 = .ok (.istore_n 2, 1) := by decide +kernel
theorem dX7_send_15 : decode cX7_send 15 = .ok (.iload_n 1, 1) := by decide +kernel
theorem dX7_send_16 : decode cX7_send 16 = .ok (.bipush 40, 2) := by decide +kernel
theorem dX7_send_18 : decode cX7_send 18 = .ok (.imul, 1) := by decide +kernel
theorem dX7_send_19 : decode cX7_send 19 = .ok (.istore_n 3, 1) := by decide +kernel
theorem dX7_send_20 : decode cX7_send 20 = .ok (.iconst 0, 1) := by decide +kernel
theorem dX7_send_21 : decode cX7_send 21 = .ok (.istore 4, 2) := by decide +kernel
theorem dX7_send_23 : decode cX7_send 23 = .ok (.iload 4, 2) := by decide +kernel
theorem dX7_send_25 : decode cX7_send 25 = .ok (.aload_n 0, 1) := by decide +kernel
theorem dX7_send_26 : decode cX7_send 26 = .ok (.getfield 31, 3) := by decide +kernel
theorem dX7_send_29 : decode cX7_send 29 = .ok (.getfield 64, 3) := by decide +kernel
theorem dX7_send_32 : decode cX7_send 32 = .ok (.if_icmp .ge 63, 3) := by decide +kernel
theorem dX7_send_35 : decode cX7_send 35 = .ok (.aload_n 0, 1) := by decide +kernel
theorem dX7_send_36 : decode cX7_send 36 = .ok (.getfield 16, 3) := by decide +kernel
theorem dX7_send_39 : decode cX7_send 39 = .ok (.iload_n 3, 1) := by decide +kernel
theorem dX7_send_40 : decode cX7_send 40 = .ok (.iload 4, 2) := by decide +kernel
theorem dX7_send_42 : decode cX7_send 42 = .ok (.iadd, 1) := by decide +kernel
theorem dX7_send_43 : decode cX7_send 43 = .ok (.iaload, 1) := by decide +kernel
theorem dX7_send_44 : decode cX7_send 44 = .ok (.aload_n 0, 1) := by decide +kernel
theorem dX7_send_45 : decode cX7_send 45 = .ok (.getfield 9, 3) := by decide +kernel
theorem dX7_send_48 : decode cX7_send 48 = .ok (.iload 4, 2) := by decide +kernel
theorem dX7_send_50 : decode cX7_send 50 = .ok (.iaload, 1) := by decide +kernel
theorem dX7_send_51 : decode cX7_send 51 = .ok (.ior, 1) := by decide +kernel
theorem dX7_send_52 : decode cX7_send 52 = .ok (.istore 5, 2) := by decide +kernel
theorem dX7_send_54 : decode cX7_send 54 = .ok (.iload_n 2, 1) := by decide +kernel
theorem dX7_send_55 : decode cX7_send 55 = .ok (.ifCond .ne 17, 3) := by decide +kernel
theorem dX7_send_58 : decode cX7_send 58 = .ok (.iload 5, 2) := by decide +kernel
theorem dX7_send_60 : decode cX7_send 60 = .ok (.aload_n 0, 1) := by decide +kernel
theorem dX7_send_61 : decode cX7_send 61 = .ok (.getfield 16, 3) := by decide +kernel
theorem dX7_send_64 : decode cX7_send 64 = .ok (.iload_n 3, 1) := by decide +kernel
theorem dX7_send_65 : decode cX7_send 65 = .ok (.iload 4, 2) := by decide +kernel
theorem dX7_send_67 : decode cX7_send 67 = .ok (.iadd, 1) := by decide +kernel
theorem dX7_send_68 : decode cX7_send 68 = .ok (.iaload, 1) := by decide +kernel
theorem dX7_send_69 : decode cX7_send 69 = .ok (.if_icmp .eq 7, 3) := by decide +kernel
theorem dX7_send_72 : decode cX7_send 72 = .ok (.iconst 1, 1) := by decide +kernel
theorem dX7_send_73 : decode cX7_send 73 = .ok (.goto 4, 3) := by decide +kernel
theorem dX7_send_76 : decode cX7_send 76 = .ok (.iconst 0, 1) := by decide +kernel
theorem dX7_send_77 : decode cX7_send 77 = .ok (.istore_n 2, 1) := by decide +kernel
theorem dX7_send_78 : decode cX7_send 78 = .ok (.aload_n 0, 1) := by decide +kernel
theorem dX7_send_79 : decode cX7_send 79 = .ok (.getfield 16, 3) := by decide +kernel
theorem dX7_send_82 : decode cX7_send 82 = .ok (.iload_n 3, 1) := by decide +kernel
theorem dX7_send_83 : decode cX7_send 83 = .ok (.iload 4, 2) := by decide +kernel
theorem dX7_send_85 : decode cX7_send 85 = .ok (.iadd, 1) := by decide +kernel
theorem dX7_send_86 : decode cX7_send 86 = .ok (.iload 5, 2) := by decide +kernel
theorem dX7_send_88 : decode cX7_send 88 = .ok (.iastore, 1) := by decide +kernel
theorem dX7_send_89 : decode cX7_send 89 = .ok (.iinc 4 1, 3) := by decide +kernel
theorem dX7_send_92 : decode cX7_send 92 = .ok (.goto (-69), 3) := by decide +kernel
theorem dX7_send_95 : decode cX7_send 95 = .ok (.aload_n 0, 1) := by decide +kernel
theorem dX7_send_96 : decode cX7_send 96 = .ok (.getfield 19, 3) := by decide +kernel
theorem dX7_send_99 : decode cX7_send 99 = .ok (.iload_n 1, 1) := by decide +kernel
theorem dX7_send_100 : decode cX7_send 100 = .ok (.iconst 1, 1) := by decide +kernel
theorem dX7_send_101 : decode cX7_send 101 = .ok (.bastore, 1) := by decide +kernel
theorem dX7_send_102 : decode cX7_send 102 = .ok (.iload_n 2, 1) := by decide +kernel
theorem dX7_send_103 : decode cX7_send 103 = .ok (.ireturn, 1) := by decide +kernel
theorem dX7_tell_0 : decode cX7_tell 0 = .ok (.aload_n 0, 1) := by decide +kernel
theorem dX7_tell_1 : decode cX7_tell 1 = .ok (.getfield 27, 3) := by decide +kernel
theorem dX7_tell_4 : decode cX7_tell 4 = .ok (.getfield 144, 3) := by decide +kernel
theorem dX7_tell_7 : decode cX7_tell 7 = .ok (.iload_n 1, 1) := by decide +kernel
theorem dX7_tell_8 : decode cX7_tell 8 = .ok (.iaload, 1) := by decide +kernel
theorem dX7_tell_9 : decode cX7_tell 9 = .ok (.istore_n 2, 1) := by decide +kernel
theorem dX7_tell_10 : decode cX7_tell 10 = .ok (.aload_n 0, 1) := by decide +kernel
theorem dX7_tell_11 : decode cX7_tell 11 = .ok (.getfield 35, 3) := by decide +kernel
theorem dX7_tell_14 : decode cX7_tell 14 = .ok (.ifCond .lt 11, 3) := by decide +kernel
theorem dX7_tell_17 : decode cX7_tell 17 = .ok (.iload_n 2, 1) := by decide +kernel
theorem dX7_tell_18 : decode cX7_tell 18 = .ok (.aload_n 0, 1) := by decide +kernel
theorem dX7_tell_19 : decode cX7_tell 19 = .ok (.getfield 35, 3) := by decide +kernel
theorem dX7_tell_22 : decode cX7_tell 22 = .ok (.if_icmp .ge 8, 3) := by decide +kernel
theorem dX7_tell_25 : decode cX7_tell 25 = .ok (.aload_n 0, 1) := by decide +kernel
theorem dX7_tell_26 : decode cX7_tell 26 = .ok (.iload_n 2, 1) := by decide +kernel
theorem dX7_tell_27 : decode cX7_tell 27 = .ok (.putfield 35, 3) := by decide +kernel
theorem dX7_tell_30 : decode cX7_tell 30 = .ok (.return_, 1) := by decide +kernel
theorem dX7_use_0 : decode cX7_use 0 = .ok (.aload_n 0, 1) := by decide +kernel
theorem dX7_use_1 : decode cX7_use 1 = .ok (.getfield 9, 3) := by decide +kernel
theorem dX7_use_4 : decode cX7_use 4 = .ok (.aload_n 0, 1) := by decide +kernel
theorem dX7_use_5 : decode cX7_use 5 = .ok (.getfield 27, 3) := by decide +kernel
theorem dX7_use_8 : decode cX7_use 8 = .ok (.getfield 106, 3) := by decide +kernel
theorem dX7_use_11 : decode cX7_use 11 = .ok (.iload_n 1, 1) := by decide +kernel
theorem dX7_use_12 : decode cX7_use 12 = .ok (.iaload, 1) := by decide +kernel
theorem dX7_use_13 : decode cX7_use 13 = .ok (.iaload, 1) := by decide +kernel
theorem dX7_use_14 : decode cX7_use 14 = .ok (.aload_n 0, 1) := by decide +kernel
theorem dX7_use_15 : decode cX7_use 15 = .ok (.getfield 27, 3) := by decide +kernel
theorem dX7_use_18 : decode cX7_use 18 = .ok (.getfield 109, 3) := by decide +kernel
theorem dX7_use_21 : decode cX7_use 21 = .ok (.iload_n 1, 1) := by decide +kernel
theorem dX7_use_22 : decode cX7_use 22 = .ok (.iaload, 1) := by decide +kernel
theorem dX7_use_23 : decode cX7_use 23 = .ok (.iand, 1) := by decide +kernel
theorem dX7_use_24 : decode cX7_use 24 = .ok (.ifCond .eq 8, 3) := by decide +kernel
theorem dX7_use_27 : decode cX7_use 27 = .ok (.aload_n 0, 1) := by decide +kernel
theorem dX7_use_28 : decode cX7_use 28 = .ok (.iload_n 1, 1) := by decide +kernel
theorem dX7_use_29 : decode cX7_use 29 = .ok (.invokevirtual 132, 3) := by decide +kernel
theorem dX7_use_32 : decode cX7_use 32 = .ok (.return_, 1) := by decide +kernel
