theorem dX23_isItem_0 : decode cX23_isItem 0 = .ok (.aload_n 0, 1) := by decide +kernel
theorem dX23_isItem_1 : decode cX23_isItem 1 = .ok (.getfield 386, 3) := by decide +kernel
theorem dX23_isItem_4 : decode cX23_isItem 4 = .ok (.iconst 3, 1) := by decide +kernel
theorem dX23_isItem_5 : decode cX23_isItem 5 = .ok (.if_icmp .eq 11, 3) := by decide +kernel
theorem dX23_isItem_8 : decode cX23_isItem 8 = .ok (.aload_n 0, 1) := by decide +kernel
theorem dX23_isItem_9 : decode cX23_isItem 9 = .ok (.getfield 386, 3) := by decide +kernel
theorem dX23_isItem_12 : decode cX23_isItem 12 = .ok (.iconst 4, 1) := by decide +kernel
theorem dX23_isItem_13 : decode cX23_isItem 13 = .ok (.if_icmp .ne 15, 3) := by decide +kernel
theorem dX23_isItem_16 : decode cX23_isItem 16 = .ok (.aload_n 0, 1) := by decide +kernel
theorem dX23_isItem_17 : decode cX23_isItem 17 = .ok (.getfield 387, 3) := by decide +kernel
theorem dX23_isItem_20 : decode cX23_isItem 20 = .ok (.iload_n 1, 1) := by decide +kernel
theorem dX23_isItem_21 : decode cX23_isItem 21 = .ok (.if_icmp .ne 7, 3) := by decide +kernel
theorem dX23_isItem_24 : decode cX23_isItem 24 = .ok (.iconst 1, 1) := by decide +kernel
theorem dX23_isItem_25 : decode cX23_isItem 25 = .ok (.goto 4, 3) := by decide +kernel
theorem dX23_isItem_28 : decode cX23_isItem 28 = .ok (.iconst 0, 1) := by decide +kernel
theorem dX23_isItem_29 : decode cX23_isItem 29 = .ok (.ireturn, 1) := by decide +kernel
theorem dX23_refers_0 : decode cX23_refers 0 = .ok (.aload_n 0, 1) := by decide +kernel
theorem dX23_refers_1 : decode cX23_refers 1 = .ok (.getfield 386, 3) := by decide +kernel
theorem dX23_refers_4 : decode cX23_refers 4 = .ok (.bipush 6, 2) := by decide +kernel
theorem dX23_refers_6 : decode cX23_refers 6 = .ok (.if_icmp .eq 12, 3) := by decide +kernel
theorem dX23_refers_9 : decode cX23_refers 9 = .ok (.aload_n 0, 1) := by decide +kernel
theorem dX23_refers_10 : decode cX23_refers 10 = .ok (.getfield 386, 3) := by decide +kernel
theorem dX23_refers_13 : decode cX23_refers 13 = .ok (.bipush 7, 2) := by decide +kernel
theorem dX23_refers_15 : decode cX23_refers 15 = .ok (.if_icmp .ne 7, 3) := by decide +kernel
theorem dX23_refers_18 : decode cX23_refers 18 = .ok (.iconst 1, 1) := by decide +kernel
theorem dX23_refers_19 : decode cX23_refers 19 = .ok (.goto 4, 3) := by decide +kernel
theorem dX23_refers_22 : decode cX23_refers 22 = .ok (.iconst 0, 1) := by decide +kernel
theorem dX23_refers_23 : decode cX23_refers 23 = .ok (.ireturn, 1) := by decide +kernel
theorem dX23_copied_0 : decode cX23_copied 0 = .ok (.aload_n 0, 1) := by decide +kernel
theorem dX23_copied_1 : decode cX23_copied 1 = .ok (.getfield 386, 3) := by decide +kernel
theorem dX23_copied_4 : decode cX23_copied 4 = .ok (.ifCond .eq 20, 3) := by decide +kernel
theorem dX23_copied_7 : decode cX23_copied 7 = .ok (.aload_n 0, 1) := by decide +kernel
theorem dX23_copied_8 : decode cX23_copied 8 = .ok (.getfield 386, 3) := by decide +kernel
theorem dX23_copied_11 : decode cX23_copied 11 = .ok (.iconst 1, 1) := by decide +kernel
theorem dX23_copied_12 : decode cX23_copied 12 = .ok (.if_icmp .eq 12, 3) := by decide +kernel
theorem dX23_copied_15 : decode cX23_copied 15 = .ok (.aload_n 0, 1) := by decide +kernel
theorem dX23_copied_16 : decode cX23_copied 16 = .ok (.getfield 386, 3) := by decide +kernel
theorem dX23_copied_19 : decode cX23_copied 19 = .ok (.bipush 6, 2) := by decide +kernel
theorem dX23_copied_21 : decode cX23_copied 21 = .ok (.if_icmp .ne 7, 3) := by decide +kernel
theorem dX23_copied_24 : decode cX23_copied 24 = .ok (.iconst 1, 1) := by decide +kernel
theorem dX23_copied_25 : decode cX23_copied 25 = .ok (.goto 4, 3) := by decide +kernel
theorem dX23_copied_28 : decode cX23_copied 28 = .ok (.iconst 0, 1) := by decide +kernel
theorem dX23_copied_29 : decode cX23_copied 29 = .ok (.ireturn, 1) := by decide +kernel
theorem dX23_bare_0 : decode cX23_bare 0 = .ok (.aload_n 0, 1) := by decide +kernel
theorem dX23_bare_1 : decode cX23_bare 1 = .ok (.astore_n 1, 1) := by decide +kernel
theorem dX23_bare_2 : decode cX23_bare 2 = .ok (.aload_n 1, 1) := by decide +kernel
theorem dX23_bare_3 : decode cX23_bare 3 = .ok (.getfield 330, 3) := by decide +kernel
theorem dX23_bare_6 : decode cX23_bare 6 = .ok (.bipush 7, 2) := by decide +kernel
theorem dX23_bare_8 : decode cX23_bare 8 = .ok (.if_icmp .ne 11, 3) := by decide +kernel
theorem dX23_bare_11 : decode cX23_bare 11 = .ok (.aload_n 1, 1) := by decide +kernel
theorem dX23_bare_12 : decode cX23_bare 12 = .ok (.getfield 331, 3) := by decide +kernel
theorem dX23_bare_15 : decode cX23_bare 15 = .ok (.astore_n 1, 1) := by decide +kernel
theorem dX23_bare_16 : decode cX23_bare 16 = .ok (.goto (-14), 3) := by decide +kernel
theorem dX23_bare_19 : decode cX23_bare 19 = .ok (.aload_n 1, 1) := by decide +kernel
theorem dX23_bare_20 : decode cX23_bare 20 = .ok (.areturn, 1) := by decide +kernel
theorem dX23_depth_0 : decode cX23_depth 0 = .ok (.iconst 0, 1) := by decide +kernel
theorem dX23_depth_1 : decode cX23_depth 1 = .ok (.istore_n 1, 1) := by decide +kernel
theorem dX23_depth_2 : decode cX23_depth 2 = .ok (.aload_n 0, 1) := by decide +kernel
theorem dX23_depth_3 : decode cX23_depth 3 = .ok (.invokestatic 480, 3) := by decide +kernel
theorem dX23_depth_6 : decode cX23_depth 6 = .ok (.astore_n 2, 1) := by decide +kernel
theorem dX23_depth_7 : decode cX23_depth 7 = .ok (.aload_n 2, 1) := by decide +kernel
theorem dX23_depth_8 : decode cX23_depth 8 = .ok (.getfield 330, 3) := by decide +kernel
theorem dX23_depth_11 : decode cX23_depth 11 = .ok (.bipush 14, 2) := by decide +kernel
theorem dX23_depth_13 : decode cX23_depth 13 = .ok (.if_icmp .eq 12, 3) := by decide +kernel
theorem dX23_depth_16 : decode cX23_depth 16 = .ok (.aload_n 2, 1) := by decide +kernel
theorem dX23_depth_17 : decode cX23_depth 17 = .ok (.getfield 330, 3) := by decide +kernel
theorem dX23_depth_20 : decode cX23_depth 20 = .ok (.bipush 11, 2) := by decide +kernel
theorem dX23_depth_22 : decode cX23_depth 22 = .ok (.if_icmp .ne 17, 3) := by decide +kernel
theorem dX23_depth_25 : decode cX23_depth 25 = .ok (.iinc 1 1, 3) := by decide +kernel
theorem dX23_depth_28 : decode cX23_depth 28 = .ok (.aload_n 2, 1) := by decide +kernel
theorem dX23_depth_29 : decode cX23_depth 29 = .ok (.getfield 331, 3) := by decide +kernel
theorem dX23_depth_32 : decode cX23_depth 32 = .ok (.invokestatic 480, 3) := by decide +kernel
theorem dX23_depth_35 : decode cX23_depth 35 = .ok (.astore_n 2, 1) := by decide +kernel
theorem dX23_depth_36 : decode cX23_depth 36 = .ok (.goto (-29), 3) := by decide +kernel
theorem dX23_depth_39 : decode cX23_depth 39 = .ok (.iload_n 1, 1) := by decide +kernel
theorem dX23_depth_40 : decode cX23_depth 40 = .ok (.ireturn, 1) := by decide +kernel
theorem dX23_isPart_0 : decode cX23_isPart 0 = .ok (.aload_n 0, 1) := by decide +kernel
theorem dX23_isPart_1 : decode cX23_isPart 1 = .ok (.invokestatic 480, 3) := by decide +kernel
theorem dX23_isPart_4 : decode cX23_isPart 4 = .ok (.astore_n 1, 1) := by decide +kernel
theorem dX23_isPart_5 : decode cX23_isPart 5 = .ok (.aload_n 1, 1) := by decide +kernel
theorem dX23_isPart_6 : decode cX23_isPart 6 = .ok (.getfield 330, 3) := by decide +kernel
theorem dX23_isPart_9 : decode cX23_isPart 9 = .ok (.bipush 14, 2) := by decide +kernel
theorem dX23_isPart_11 : decode cX23_isPart 11 = .ok (.if_icmp .ne 14, 3) := by decide +kernel
theorem dX23_isPart_14 : decode cX23_isPart 14 = .ok (.aload_n 1, 1) := by decide +kernel
theorem dX23_isPart_15 : decode cX23_isPart 15 = .ok (.getfield 331, 3) := by decide +kernel
theorem dX23_isPart_18 : decode cX23_isPart 18 = .ok (.invokestatic 480, 3) := by decide +kernel
theorem dX23_isPart_21 : decode cX23_isPart 21 = .ok (.astore_n 1, 1) := by decide +kernel
theorem dX23_isPart_22 : decode cX23_isPart 22 = .ok (.goto (-17), 3) := by decide +kernel
theorem dX23_isPart_25 : decode cX23_isPart 25 = .ok (.aload_n 1, 1) := by decide +kernel
theorem dX23_isPart_26 : decode cX23_isPart 26 = .ok (.getfield 330, 3) := by decide +kernel
theorem dX23_isPart_29 : decode cX23_isPart 29 = .ok (.iconst 2, 1) := by decide +kernel
theorem dX23_isPart_30 : decode cX23_isPart 30 = .ok (.if_icmp .ne 7, 3) := by decide +kernel
theorem dX23_isPart_33 : decode cX23_isPart 33 = .ok (.iconst 1, 1) := by decide +kernel
theorem dX23_isPart_34 : decode cX23_isPart 34 = .ok (.goto 4, 3) := by decide +kernel
theorem dX23_isPart_37 : decode cX23_isPart 37 = .ok (.iconst 0, 1) := by decide +kernel
theorem dX23_isPart_38 : decode cX23_isPart 38 = .ok (.ireturn, 1) := by decide +kernel
