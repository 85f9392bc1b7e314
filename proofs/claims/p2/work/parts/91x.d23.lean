theorem dX23_feedWord_0 : decode cX23_feedWord 0 = .ok (.bipush 24, 2) := by decide +kernel
theorem dX23_feedWord_2 : decode cX23_feedWord 2 = .ok (.istore_n 2, 1) := by decide +kernel
theorem dX23_feedWord_3 : decode cX23_feedWord 3 = .ok (.iload_n 2, 1) := by decide +kernel
theorem dX23_feedWord_4 : decode cX23_feedWord 4 = .ok (.ifCond .lt 35, 3) := by decide +kernel
theorem dX23_feedWord_7 : decode cX23_feedWord 7 = .ok (.aload_n 0, 1) := by decide +kernel
theorem dX23_feedWord_8 : decode cX23_feedWord 8 = .ok (.getfield 7, 3) := by decide +kernel
theorem dX23_feedWord_11 : decode cX23_feedWord 11 = .ok (.aload_n 0, 1) := by decide +kernel
theorem dX23_feedWord_12 : decode cX23_feedWord 12 = .ok (.getfield 1167, 3) := by decide +kernel
theorem dX23_feedWord_15 : decode cX23_feedWord 15 = .ok (.iload_n 1, 1) := by decide +kernel
theorem dX23_feedWord_16 : decode cX23_feedWord 16 = .ok (.iload_n 2, 1) := by decide +kernel
theorem dX23_feedWord_17 : decode cX23_feedWord 17 = .ok (.ishr, 1) := by decide +kernel
theorem dX23_feedWord_18 : decode cX23_feedWord 18 = .ok (.sipush 255, 3) := by decide +kernel
theorem dX23_feedWord_21 : decode cX23_feedWord 21 = .ok (.iand, 1) := by decide +kernel
theorem dX23_feedWord_22 : decode cX23_feedWord 22 = .ok (.iastore, 1) := by decide +kernel
theorem dX23_feedWord_23 : decode cX23_feedWord 23 = .ok (.aload_n 0, 1) := by decide +kernel
theorem dX23_feedWord_24 : decode cX23_feedWord 24 = .ok (.dup, 1) := by decide +kernel
theorem dX23_feedWord_25 : decode cX23_feedWord 25 = .ok (.getfield 1167, 3) := by decide +kernel
theorem dX23_feedWord_28 : decode cX23_feedWord 28 = .ok (.iconst 1, 1) := by decide +kernel
theorem dX23_feedWord_29 : decode cX23_feedWord 29 = .ok (.iadd, 1) := by decide +kernel
theorem dX23_feedWord_30 : decode cX23_feedWord 30 = .ok (.putfield 1167, 3) := by decide +kernel
theorem dX23_feedWord_33 : decode cX23_feedWord 33 = .ok (.iinc 2 (-8), 3) := by decide +kernel
theorem dX23_feedWord_36 : decode cX23_feedWord 36 = .ok (.goto (-33), 3) := by decide +kernel
theorem dX23_feedWord_39 : decode cX23_feedWord 39 = .ok (.return_, 1) := by decide +kernel
theorem dX23_feed_0 : decode cX23_feed 0 = .ok (.aload_n 0, 1) := by decide +kernel
theorem dX23_feed_1 : decode cX23_feed 1 = .ok (.getfield 1167, 3) := by decide +kernel
theorem dX23_feed_4 : decode cX23_feed 4 = .ok (.bipush 20, 2) := by decide +kernel
theorem dX23_feed_6 : decode cX23_feed 6 = .ok (.iadd, 1) := by decide +kernel
theorem dX23_feed_7 : decode cX23_feed 7 = .ok (.sipush 3000, 3) := by decide +kernel
theorem dX23_feed_10 : decode cX23_feed 10 = .ok (.if_icmp .le 5, 3) := by decide +kernel
theorem dX23_feed_13 : decode cX23_feed 13 = .ok (.iconst 0, 1) := by decide +kernel
theorem dX23_feed_14 : decode cX23_feed 14 = .ok (.ireturn, 1) := by decide +kernel
theorem dX23_feed_15 : decode cX23_feed 15 = .ok (.aload_n 0, 1) := by decide +kernel
theorem dX23_feed_16 : decode cX23_feed 16 = .ok (.iload_n 1, 1) := by decide +kernel
theorem dX23_feed_17 : decode cX23_feed 17 = .ok (.invokevirtual 1170, 3) := by decide +kernel
theorem dX23_feed_20 : decode cX23_feed 20 = .ok (.aload_n 0, 1) := by decide +kernel
theorem dX23_feed_21 : decode cX23_feed 21 = .ok (.iload_n 2, 1) := by decide +kernel
theorem dX23_feed_22 : decode cX23_feed 22 = .ok (.invokevirtual 1170, 3) := by decide +kernel
theorem dX23_feed_25 : decode cX23_feed 25 = .ok (.aload_n 0, 1) := by decide +kernel
theorem dX23_feed_26 : decode cX23_feed 26 = .ok (.iload_n 3, 1) := by decide +kernel
theorem dX23_feed_27 : decode cX23_feed 27 = .ok (.invokevirtual 1170, 3) := by decide +kernel
theorem dX23_feed_30 : decode cX23_feed 30 = .ok (.aload_n 0, 1) := by decide +kernel
theorem dX23_feed_31 : decode cX23_feed 31 = .ok (.iload 4, 2) := by decide +kernel
theorem dX23_feed_33 : decode cX23_feed 33 = .ok (.invokevirtual 1170, 3) := by decide +kernel
theorem dX23_feed_36 : decode cX23_feed 36 = .ok (.aload_n 0, 1) := by decide +kernel
theorem dX23_feed_37 : decode cX23_feed 37 = .ok (.iload 5, 2) := by decide +kernel
theorem dX23_feed_39 : decode cX23_feed 39 = .ok (.invokevirtual 1170, 3) := by decide +kernel
theorem dX23_feed_42 : decode cX23_feed 42 = .ok (.iconst 1, 1) := by decide +kernel
theorem dX23_feed_43 : decode cX23_feed 43 = .ok (.ireturn, 1) := by decide +kernel
theorem dX23_input_0 : decode cX23_input 0 = .ok (.aload_n 0, 1) := by decide +kernel
theorem dX23_input_1 : decode cX23_input 1 = .ok (.getfield 1113, 3) := by decide +kernel
theorem dX23_input_4 : decode cX23_input 4 = .ok (.bipush 60, 2) := by decide +kernel
theorem dX23_input_6 : decode cX23_input 6 = .ok (.if_icmp .ne 5, 3) := by decide +kernel
theorem dX23_input_9 : decode cX23_input 9 = .ok (.iconst 0, 1) := by decide +kernel
theorem dX23_input_10 : decode cX23_input 10 = .ok (.ireturn, 1) := by decide +kernel
theorem dX23_input_11 : decode cX23_input 11 = .ok (.aload_n 0, 1) := by decide +kernel
theorem dX23_input_12 : decode cX23_input 12 = .ok (.getfield 963, 3) := by decide +kernel
theorem dX23_input_15 : decode cX23_input 15 = .ok (.aload_n 0, 1) := by decide +kernel
theorem dX23_input_16 : decode cX23_input 16 = .ok (.getfield 1113, 3) := by decide +kernel
theorem dX23_input_19 : decode cX23_input 19 = .ok (.lload_n 1, 1) := by decide +kernel
theorem dX23_input_20 : decode cX23_input 20 = .ok (.lastore, 1) := by decide +kernel
theorem dX23_input_21 : decode cX23_input 21 = .ok (.aload_n 0, 1) := by decide +kernel
theorem dX23_input_22 : decode cX23_input 22 = .ok (.dup, 1) := by decide +kernel
theorem dX23_input_23 : decode cX23_input 23 = .ok (.getfield 1113, 3) := by decide +kernel
theorem dX23_input_26 : decode cX23_input 26 = .ok (.iconst 1, 1) := by decide +kernel
theorem dX23_input_27 : decode cX23_input 27 = .ok (.iadd, 1) := by decide +kernel
theorem dX23_input_28 : decode cX23_input 28 = .ok (.putfield 1113, 3) := by decide +kernel
theorem dX23_input_31 : decode cX23_input 31 = .ok (.iconst 1, 1) := by decide +kernel
theorem dX23_input_32 : decode cX23_input 32 = .ok (.ireturn, 1) := by decide +kernel
theorem dX23_place__0 : decode cX23_place_ 0 = .ok (.aload_n 0, 1) := by decide +kernel
theorem dX23_place__1 : decode cX23_place_ 1 = .ok (.getfield 966, 3) := by decide +kernel
theorem dX23_place__4 : decode cX23_place_ 4 = .ok (.ireturn, 1) := by decide +kernel
theorem dX23_fetch_0 : decode cX23_fetch 0 = .ok (.aload_n 0, 1) := by decide +kernel
theorem dX23_fetch_1 : decode cX23_fetch 1 = .ok (.getfield 1061, 3) := by decide +kernel
theorem dX23_fetch_4 : decode cX23_fetch 4 = .ok (.bipush 7, 2) := by decide +kernel
theorem dX23_fetch_6 : decode cX23_fetch 6 = .ok (.if_icmp .ge 10, 3) := by decide +kernel
theorem dX23_fetch_9 : decode cX23_fetch 9 = .ok (.aload_n 0, 1) := by decide +kernel
theorem dX23_fetch_10 : decode cX23_fetch 10 = .ok (.getfield 1061, 3) := by decide +kernel
theorem dX23_fetch_13 : decode cX23_fetch 13 = .ok (.goto 5, 3) := by decide +kernel
theorem dX23_fetch_16 : decode cX23_fetch 16 = .ok (.bipush 7, 2) := by decide +kernel
theorem dX23_fetch_18 : decode cX23_fetch 18 = .ok (.istore_n 1, 1) := by decide +kernel
theorem dX23_fetch_19 : decode cX23_fetch 19 = .ok (.iload_n 1, 1) := by decide +kernel
theorem dX23_fetch_20 : decode cX23_fetch 20 = .ok (.i2l, 1) := by decide +kernel
theorem dX23_fetch_21 : decode cX23_fetch 21 = .ok (.lstore_n 2, 1) := by decide +kernel
theorem dX23_fetch_22 : decode cX23_fetch 22 = .ok (.iconst 0, 1) := by decide +kernel
theorem dX23_fetch_23 : decode cX23_fetch 23 = .ok (.istore 4, 2) := by decide +kernel
theorem dX23_fetch_25 : decode cX23_fetch 25 = .ok (.iload 4, 2) := by decide +kernel
theorem dX23_fetch_27 : decode cX23_fetch 27 = .ok (.bipush 7, 2) := by decide +kernel
theorem dX23_fetch_29 : decode cX23_fetch 29 = .ok (.if_icmp .ge 55, 3) := by decide +kernel
theorem dX23_fetch_32 : decode cX23_fetch 32 = .ok (.lload_n 2, 1) := by decide +kernel
theorem dX23_fetch_33 : decode cX23_fetch 33 = .ok (.bipush 8, 2) := by decide +kernel
theorem dX23_fetch_35 : decode cX23_fetch 35 = .ok (.lshl, 1) := by decide +kernel
theorem dX23_fetch_36 : decode cX23_fetch 36 = .ok (.iload 4, 2) := by decide +kernel
theorem dX23_fetch_38 : decode cX23_fetch 38 = .ok (.iload_n 1, 1) := by decide +kernel
theorem dX23_fetch_39 : decode cX23_fetch 39 = .ok (.if_icmp .ge 15, 3) := by decide +kernel
theorem dX23_fetch_42 : decode cX23_fetch 42 = .ok (.aload_n 0, 1) := by decide +kernel
theorem dX23_fetch_43 : decode cX23_fetch 43 = .ok (.getfield 960, 3) := by decide +kernel
theorem dX23_fetch_46 : decode cX23_fetch 46 = .ok (.aload_n 0, 1) := by decide +kernel
theorem dX23_fetch_47 : decode cX23_fetch 47 = .ok (.getfield 1064, 3) := by decide +kernel
theorem dX23_fetch_50 : decode cX23_fetch 50 = .ok (.iaload, 1) := by decide +kernel
theorem dX23_fetch_51 : decode cX23_fetch 51 = .ok (.goto 4, 3) := by decide +kernel
theorem dX23_fetch_54 : decode cX23_fetch 54 = .ok (.iconst 0, 1) := by decide +kernel
theorem dX23_fetch_55 : decode cX23_fetch 55 = .ok (.i2l, 1) := by decide +kernel
theorem dX23_fetch_56 : decode cX23_fetch 56 = .ok (.lor, 1) := by decide +kernel
theorem dX23_fetch_57 : decode cX23_fetch 57 = .ok (.lstore_n 2, 1) := by decide +kernel
theorem dX23_fetch_58 : decode cX23_fetch 58 = .ok (.iload 4, 2) := by decide +kernel
theorem dX23_fetch_60 : decode cX23_fetch 60 = .ok (.iload_n 1, 1) := by decide +kernel
theorem dX23_fetch_61 : decode cX23_fetch 61 = .ok (.if_icmp .ge 17, 3) := by decide +kernel
theorem dX23_fetch_64 : decode cX23_fetch 64 = .ok (.aload_n 0, 1) := by decide +kernel
theorem dX23_fetch_65 : decode cX23_fetch 65 = .ok (.aload_n 0, 1) := by decide +kernel
theorem dX23_fetch_66 : decode cX23_fetch 66 = .ok (.getfield 1064, 3) := by decide +kernel
theorem dX23_fetch_69 : decode cX23_fetch 69 = .ok (.iconst 1, 1) := by decide +kernel
theorem dX23_fetch_70 : decode cX23_fetch 70 = .ok (.iadd, 1) := by decide +kernel
theorem dX23_fetch_71 : decode cX23_fetch 71 = .ok (.sipush 4000, 3) := by decide +kernel
theorem dX23_fetch_74 : decode cX23_fetch 74 = .ok (.irem, 1) := by decide +kernel
theorem dX23_fetch_75 : decode cX23_fetch 75 = .ok (.putfield 1064, 3) := by decide +kernel
theorem dX23_fetch_78 : decode cX23_fetch 78 = .ok (.iinc 4 1, 3) := by decide +kernel
theorem dX23_fetch_81 : decode cX23_fetch 81 = .ok (.goto (-56), 3) := by decide +kernel
theorem dX23_fetch_84 : decode cX23_fetch 84 = .ok (.aload_n 0, 1) := by decide +kernel
theorem dX23_fetch_85 : decode cX23_fetch 85 = .ok (.dup, 1) := by decide +kernel
theorem dX23_fetch_86 : decode cX23_fetch 86 = .ok (.getfield 1061, 3) := by decide +kernel
theorem dX23_fetch_89 : decode cX23_fetch 89 = .ok (.iload_n 1, 1) := by decide +kernel
theorem dX23_fetch_90 : decode cX23_fetch 90 = .ok (.isub, 1) := by decide +kernel
theorem dX23_fetch_91 : decode cX23_fetch 91 = .ok (.putfield 1061, 3) := by decide +kernel
theorem dX23_fetch_94 : decode cX23_fetch 94 = .ok (.lload_n 2, 1) := by decide +kernel
theorem dX23_fetch_95 : decode cX23_fetch 95 = .ok (.lreturn, 1) := by decide +kernel
theorem dX23_count_0 : decode cX23_count 0 = .ok (.iload_n 1, 1) := by decide +kernel
theorem dX23_count_1 : decode cX23_count 1 = .ok (.tableswitch 69 0 5 #[39, 44, 49, 54, 59, 64], 39) := by decide +kernel
theorem dX23_count_40 : decode cX23_count 40 = .ok (.aload_n 0, 1) := by decide +kernel
theorem dX23_count_41 : decode cX23_count 41 = .ok (.getfield 1188, 3) := by decide +kernel
theorem dX23_count_44 : decode cX23_count 44 = .ok (.ireturn, 1) := by decide +kernel
theorem dX23_count_45 : decode cX23_count 45 = .ok (.aload_n 0, 1) := by decide +kernel
theorem dX23_count_46 : decode cX23_count 46 = .ok (.getfield 1002, 3) := by decide +kernel
theorem dX23_count_49 : decode cX23_count 49 = .ok (.ireturn, 1) := by decide +kernel
theorem dX23_count_50 : decode cX23_count 50 = .ok (.aload_n 0, 1) := by decide +kernel
theorem dX23_count_51 : decode cX23_count 51 = .ok (.getfield 1008, 3) := by decide +kernel
theorem dX23_count_54 : decode cX23_count 54 = .ok (.ireturn, 1) := by decide +kernel
theorem dX23_count_55 : decode cX23_count 55 = .ok (.aload_n 0, 1) := by decide +kernel
theorem dX23_count_56 : decode cX23_count 56 = .ok (.getfield 1167, 3) := by decide +kernel
theorem dX23_count_59 : decode cX23_count 59 = .ok (.ireturn, 1) := by decide +kernel
theorem dX23_count_60 : decode cX23_count 60 = .ok (.aload_n 0, 1) := by decide +kernel
theorem dX23_count_61 : decode cX23_count 61 = .ok (.getfield 1061, 3) := by decide +kernel
theorem dX23_count_64 : decode cX23_count 64 = .ok (.ireturn, 1) := by decide +kernel
theorem dX23_count_65 : decode cX23_count 65 = .ok (.aload_n 0, 1) := by decide +kernel
theorem dX23_count_66 : decode cX23_count 66 = .ok (.getfield 1113, 3) := by decide +kernel
theorem dX23_count_69 : decode cX23_count 69 = .ok (.ireturn, 1) := by decide +kernel
theorem dX23_count_70 : decode cX23_count 70 = .ok (.iconst (-1), 1) := by decide +kernel
theorem dX23_count_71 : decode cX23_count 71 = .ok (.ireturn, 1) := by decide +kernel
