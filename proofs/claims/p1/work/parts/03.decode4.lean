theorem dX23_init_394 : decode cX23_init 394 = .ok (.putfield 939, 3) := by decide +kernel
theorem dX23_init_397 : decode cX23_init 397 = .ok (.aload_n 0, 1) := by decide +kernel
theorem dX23_init_398 : decode cX23_init 398 = .ok (.sipush 20000, 3) := by decide +kernel
theorem dX23_init_401 : decode cX23_init 401 = .ok (.newarray .long, 2) := by decide +kernel
theorem dX23_init_403 : decode cX23_init 403 = .ok (.putfield 942, 3) := by decide +kernel
theorem dX23_init_406 : decode cX23_init 406 = .ok (.aload_n 0, 1) := by decide +kernel
theorem dX23_init_407 : decode cX23_init 407 = .ok (.sipush 2440, 3) := by decide +kernel
theorem dX23_init_410 : decode cX23_init 410 = .ok (.newarray .int, 2) := by decide +kernel
theorem dX23_init_412 : decode cX23_init 412 = .ok (.putfield 945, 3) := by decide +kernel
theorem dX23_init_415 : decode cX23_init 415 = .ok (.aload_n 0, 1) := by decide +kernel
theorem dX23_init_416 : decode cX23_init 416 = .ok (.bipush 61, 2) := by decide +kernel
theorem dX23_init_418 : decode cX23_init 418 = .ok (.newarray .int, 2) := by decide +kernel
theorem dX23_init_420 : decode cX23_init 420 = .ok (.putfield 947, 3) := by decide +kernel
theorem dX23_init_423 : decode cX23_init 423 = .ok (.aload_n 0, 1) := by decide +kernel
theorem dX23_init_424 : decode cX23_init 424 = .ok (.ldc_w 950, 3) := by decide +kernel
theorem dX23_init_427 : decode cX23_init 427 = .ok (.newarray .int, 2) := by decide +kernel
theorem dX23_init_429 : decode cX23_init 429 = .ok (.putfield 951, 3) := by decide +kernel
theorem dX23_init_432 : decode cX23_init 432 = .ok (.aload_n 0, 1) := by decide +kernel
theorem dX23_init_433 : decode cX23_init 433 = .ok (.ldc_w 950, 3) := by decide +kernel
theorem dX23_init_436 : decode cX23_init 436 = .ok (.newarray .int, 2) := by decide +kernel
theorem dX23_init_438 : decode cX23_init 438 = .ok (.putfield 954, 3) := by decide +kernel
theorem dX23_init_441 : decode cX23_init 441 = .ok (.aload_n 0, 1) := by decide +kernel
theorem dX23_init_442 : decode cX23_init 442 = .ok (.ldc_w 950, 3) := by decide +kernel
theorem dX23_init_445 : decode cX23_init 445 = .ok (.newarray .int, 2) := by decide +kernel
theorem dX23_init_447 : decode cX23_init 447 = .ok (.putfield 957, 3) := by decide +kernel
theorem dX23_init_450 : decode cX23_init 450 = .ok (.aload_n 0, 1) := by decide +kernel
theorem dX23_init_451 : decode cX23_init 451 = .ok (.sipush 4000, 3) := by decide +kernel
theorem dX23_init_454 : decode cX23_init 454 = .ok (.newarray .int, 2) := by decide +kernel
theorem dX23_init_456 : decode cX23_init 456 = .ok (.putfield 960, 3) := by decide +kernel
theorem dX23_init_459 : decode cX23_init 459 = .ok (.aload_n 0, 1) := by decide +kernel
theorem dX23_init_460 : decode cX23_init 460 = .ok (.bipush 60, 2) := by decide +kernel
theorem dX23_init_462 : decode cX23_init 462 = .ok (.newarray .long, 2) := by decide +kernel
theorem dX23_init_464 : decode cX23_init 464 = .ok (.putfield 963, 3) := by decide +kernel
theorem dX23_init_467 : decode cX23_init 467 = .ok (.aload_n 0, 1) := by decide +kernel
theorem dX23_init_468 : decode cX23_init 468 = .ok (.iconst (-1), 1) := by decide +kernel
theorem dX23_init_469 : decode cX23_init 469 = .ok (.putfield 966, 3) := by decide +kernel
theorem dX23_init_472 : decode cX23_init 472 = .ok (.aload_n 0, 1) := by decide +kernel
theorem dX23_init_473 : decode cX23_init 473 = .ok (.iload_n 1, 1) := by decide +kernel
theorem dX23_init_474 : decode cX23_init 474 = .ok (.bipush 16, 2) := by decide +kernel
theorem dX23_init_476 : decode cX23_init 476 = .ok (.if_icmp .lt 14, 3) := by decide +kernel
theorem dX23_init_479 : decode cX23_init 479 = .ok (.iload_n 1, 1) := by decide +kernel
theorem dX23_init_480 : decode cX23_init 480 = .ok (.sipush 4000, 3) := by decide +kernel
theorem dX23_init_483 : decode cX23_init 483 = .ok (.if_icmp .gt 7, 3) := by decide +kernel
theorem dX23_init_486 : decode cX23_init 486 = .ok (.iload_n 1, 1) := by decide +kernel
theorem dX23_init_487 : decode cX23_init 487 = .ok (.goto 6, 3) := by decide +kernel
theorem dX23_init_490 : decode cX23_init 490 = .ok (.sipush 500, 3) := by decide +kernel
theorem dX23_init_493 : decode cX23_init 493 = .ok (.putfield 968, 3) := by decide +kernel
theorem dX23_init_496 : decode cX23_init 496 = .ok (.return_, 1) := by decide +kernel
theorem dX23_feed_0 : decode cX23_feed 0 = .ok (.aload_n 0, 1) := by decide +kernel
theorem dX23_feed_1 : decode cX23_feed 1 = .ok (.getfield 1167, 3) := by decide +kernel
theorem dX23_feed_4 : decode cX23_feed 4 = .ok (.bipush 20, 2) := by decide +kernel
theorem dX23_feed_6 : decode cX23_feed 6 = .ok (.iadd, 1) := by decide +kernel
theorem dX23_feed_7 : decode cX23_feed 7 = .ok (.sipush 3000, 3) := by decide +kernel
theorem dX23_feed_10 : decode cX23_feed 10 = .ok (.if_icmp .le 5, 3) := by decide +kernel
theorem dX23_feed_13 : decode cX23_feed 13 = .ok (.iconst 0, 1) := by decide +kernel
theorem dX23_feed_14 : decode cX23_feed 14 = .ok (.ireturn, 1) := by decide +kernel
theorem dX23_feed_15 : decode cX23_feed 15 = .ok (.aload_n 0, 1) := by decide +kernel
theorem dX23_feed_16 : decode cX23_feed 16 = .ok (.iload_n 1, 1) := by decide +kernel
theorem dX23_feed_17 : decode cX23_feed 17 = .ok (.invokevirtual 1170, 3) := by decide +kernel
theorem dX23_feed_20 : decode cX23_feed 20 = .ok (.aload_n 0, 1) := by decide +kernel
theorem dX23_feed_21 : decode cX23_feed 21 = .ok (.iload_n 2, 1) := by decide +kernel
theorem dX23_feed_22 : decode cX23_feed 22 = .ok (.invokevirtual 1170, 3) := by decide +kernel
theorem dX23_feed_25 : decode cX23_feed 25 = .ok (.aload_n 0, 1) := by decide +kernel
theorem dX23_feed_26 : decode cX23_feed 26 = .ok (.iload_n 3, 1) := by decide +kernel
theorem dX23_feed_27 : decode cX23_feed 27 = .ok (.invokevirtual 1170, 3) := by decide +kernel
theorem dX23_feed_30 : decode cX23_feed 30 = .ok (.aload_n 0, 1) := by decide +kernel
theorem dX23_feed_31 : decode cX23_feed 31 = .ok (.iload 4, 2) := by decide +kernel
theorem dX23_feed_33 : decode cX23_feed 33 = .ok (.invokevirtual 1170, 3) := by decide +kernel
theorem dX23_feed_36 : decode cX23_feed 36 = .ok (.aload_n 0, 1) := by decide +kernel
theorem dX23_feed_37 : decode cX23_feed 37 = .ok (.iload 5, 2) := by decide +kernel
theorem dX23_feed_39 : decode cX23_feed 39 = .ok (.invokevirtual 1170, 3) := by decide +kernel
theorem dX23_feed_42 : decode cX23_feed 42 = .ok (.iconst 1, 1) := by decide +kernel
theorem dX23_feed_43 : decode cX23_feed 43 = .ok (.ireturn, 1) := by decide +kernel
theorem dX23_feedWord_0 : decode cX23_feedWord 0 = .ok (.bipush 24, 2) := by decide +kernel
theorem dX23_feedWord_2 : decode cX23_feedWord 2 = .ok (.istore_n 2, 1) := by decide +kernel
theorem dX23_feedWord_3 : decode cX23_feedWord 3 = .ok (.iload_n 2, 1) := by decide +kernel
theorem dX23_feedWord_4 : decode cX23_feedWord 4 = .ok (.ifCond .lt 35, 3) := by decide +kernel
theorem dX23_feedWord_7 : decode cX23_feedWord 7 = .ok (.aload_n 0, 1) := by decide +kernel
theorem dX23_feedWord_8 : decode cX23_feedWord 8 = .ok (.getfield 7, 3) := by decide +kernel
theorem dX23_feedWord_11 : decode cX23_feedWord 11 = .ok (.aload_n 0, 1) := by decide +kernel
theorem dX23_feedWord_12 : decode cX23_feedWord 12 = .ok (.getfield 1167, 3) := by decide +kernel
theorem dX23_feedWord_15 : decode cX23_feedWord 15 = .ok (.iload_n 1, 1) := by decide +kernel
theorem dX23_feedWord_16 : decode cX23_feedWord 16 = .ok (.iload_n 2, 1) := by decide +kernel
theorem dX23_feedWord_17 : decode cX23_feedWord 17 = .ok (.ishr, 1) := by decide +kernel
theorem dX23_feedWord_18 : decode cX23_feedWord 18 = .ok (.sipush 255, 3) := by decide +kernel
theorem dX23_feedWord_21 : decode cX23_feedWord 21 = .ok (.iand, 1) := by decide +kernel
theorem dX23_feedWord_22 : decode cX23_feedWord 22 = .ok (.iastore, 1) := by decide +kernel
theorem dX23_feedWord_23 : decode cX23_feedWord 23 = .ok (.aload_n 0, 1) := by decide +kernel
theorem dX23_feedWord_24 : decode cX23_feedWord 24 = .ok (.dup, 1) := by decide +kernel
theorem dX23_feedWord_25 : decode cX23_feedWord 25 = .ok (.getfield 1167, 3) := by decide +kernel
theorem dX23_feedWord_28 : decode cX23_feedWord 28 = .ok (.iconst 1, 1) := by decide +kernel
theorem dX23_feedWord_29 : decode cX23_feedWord 29 = .ok (.iadd, 1) := by decide +kernel
theorem dX23_feedWord_30 : decode cX23_feedWord 30 = .ok (.putfield 1167, 3) := by decide +kernel
theorem dX23_feedWord_33 : decode cX23_feedWord 33 = .ok (.iinc 2 (-8), 3) := by decide +kernel
theorem dX23_feedWord_36 : decode cX23_feedWord 36 = .ok (.goto (-33), 3) := by decide +kernel
theorem dX23_feedWord_39 : decode cX23_feedWord 39 = .ok (.return_, 1) := by decide +kernel
theorem dX23_input_0 : decode cX23_input 0 = .ok (.aload_n 0, 1) := by decide +kernel
theorem dX23_input_1 : decode cX23_input 1 = .ok (.getfield 1113, 3) := by decide +kernel
theorem dX23_input_4 : decode cX23_input 4 = .ok (.bipush 60, 2) := by decide +kernel
theorem dX23_input_6 : decode cX23_input 6 = .ok (.if_icmp .ne 5, 3) := by decide +kernel
theorem dX23_input_9 : decode cX23_input 9 = .ok (.iconst 0, 1) := by decide +kernel
theorem dX23_input_10 : decode cX23_input 10 = .ok (.ireturn, 1) := by decide +kernel
theorem dX23_input_11 : decode cX23_input 11 = .ok (.aload_n 0, 1) := by decide +kernel
theorem dX23_input_12 : decode cX23_input 12 = .ok (.getfield 963, 3) := by decide +kernel
theorem dX23_input_15 : decode cX23_input 15 = .ok (.aload_n 0, 1) := by decide +kernel
theorem dX23_input_16 : decode cX23_input 16 = .ok (.getfield 1113, 3) := by decide +kernel
theorem dX23_input_19 : decode cX23_input 19 = .ok (.lload_n 1, 1) := by decide +kernel
theorem dX23_input_20 : decode cX23_input 20 = .ok (.lastore, 1) := by decide +kernel
theorem dX23_input_21 : decode cX23_input 21 = .ok (.aload_n 0, 1) := by decide +kernel
theorem dX23_input_22 : decode cX23_input 22 = .ok (.dup, 1) := by decide +kernel
theorem dX23_input_23 : decode cX23_input 23 = .ok (.getfield 1113, 3) := by decide +kernel
theorem dX23_input_26 : decode cX23_input 26 = .ok (.iconst 1, 1) := by decide +kernel
theorem dX23_input_27 : decode cX23_input 27 = .ok (.iadd, 1) := by decide +kernel
theorem dX23_input_28 : decode cX23_input 28 = .ok (.putfield 1113, 3) := by decide +kernel
theorem dX23_input_31 : decode cX23_input 31 = .ok (.iconst 1, 1) := by decide +kernel
theorem dX23_input_32 : decode cX23_input 32 = .ok (.ireturn, 1) := by decide +kernel
theorem dX23_run_0 : decode cX23_run 0 = .ok (.iload_n 1, 1) := by decide +kernel
theorem dX23_run_1 : decode cX23_run 1 = .ok (.ifCond .lt 22, 3) := by decide +kernel
theorem dX23_run_4 : decode cX23_run 4 = .ok (.iload_n 1, 1) := by decide +kernel
theorem dX23_run_5 : decode cX23_run 5 = .ok (.aload_n 0, 1) := by decide +kernel
theorem dX23_run_6 : decode cX23_run 6 = .ok (.getfield 1167, 3) := by decide +kernel
theorem dX23_run_9 : decode cX23_run 9 = .ok (.if_icmp .gt 14, 3) := by decide +kernel
theorem dX23_run_12 : decode cX23_run 12 = .ok (.iload_n 2, 1) := by decide +kernel
theorem dX23_run_13 : decode cX23_run 13 = .ok (.ifCond .lt 10, 3) := by decide +kernel
theorem dX23_run_16 : decode cX23_run 16 = .ok (.iload_n 2, 1) := by decide +kernel
theorem dX23_run_17 : decode cX23_run 17 = .ok (.sipush 20000, 3) := by decide +kernel
theorem dX23_run_20 : decode cX23_run 20 = .ok (.if_icmp .le 5, 3) := by decide +kernel
theorem dX23_run_23 : decode cX23_run 23 = .ok (.iconst (-1), 1) := by decide +kernel
theorem dX23_run_24 : decode cX23_run 24 = .ok (.ireturn, 1) := by decide +kernel
theorem dX23_run_25 : decode cX23_run 25 = .ok (.aload_n 0, 1) := by decide +kernel
theorem dX23_run_26 : decode cX23_run 26 = .ok (.iload_n 1, 1) := by decide +kernel
theorem dX23_run_27 : decode cX23_run 27 = .ok (.putfield 1, 3) := by decide +kernel
theorem dX23_run_30 : decode cX23_run 30 = .ok (.aload_n 0, 1) := by decide +kernel
theorem dX23_run_31 : decode cX23_run 31 = .ok (.iconst 0, 1) := by decide +kernel
theorem dX23_run_32 : decode cX23_run 32 = .ok (.putfield 1167, 3) := by decide +kernel
theorem dX23_run_35 : decode cX23_run 35 = .ok (.aload_n 0, 1) := by decide +kernel
theorem dX23_run_36 : decode cX23_run 36 = .ok (.iconst 0, 1) := by decide +kernel
theorem dX23_run_37 : decode cX23_run 37 = .ok (.putfield 80, 3) := by decide +kernel
theorem dX23_run_40 : decode cX23_run 40 = .ok (.aload_n 0, 1) := by decide +kernel
theorem dX23_run_41 : decode cX23_run 41 = .ok (.iconst (-1), 1) := by decide +kernel
theorem dX23_run_42 : decode cX23_run 42 = .ok (.putfield 83, 3) := by decide +kernel
theorem dX23_run_45 : decode cX23_run 45 = .ok (.aload_n 0, 1) := by decide +kernel
theorem dX23_run_46 : decode cX23_run 46 = .ok (.iload_n 2, 1) := by decide +kernel
theorem dX23_run_47 : decode cX23_run 47 = .ok (.putfield 1093, 3) := by decide +kernel
theorem dX23_run_50 : decode cX23_run 50 = .ok (.aload_n 0, 1) := by decide +kernel
theorem dX23_run_51 : decode cX23_run 51 = .ok (.iconst 0, 1) := by decide +kernel
theorem dX23_run_52 : decode cX23_run 52 = .ok (.putfield 1002, 3) := by decide +kernel
theorem dX23_run_55 : decode cX23_run 55 = .ok (.aload_n 0, 1) := by decide +kernel
theorem dX23_run_56 : decode cX23_run 56 = .ok (.iconst 0, 1) := by decide +kernel
theorem dX23_run_57 : decode cX23_run 57 = .ok (.putfield 1008, 3) := by decide +kernel
theorem dX23_run_60 : decode cX23_run 60 = .ok (.aload_n 0, 1) := by decide +kernel
theorem dX23_run_61 : decode cX23_run 61 = .ok (.invokevirtual 1173, 3) := by decide +kernel
theorem dX23_run_64 : decode cX23_run 64 = .ok (.aload_n 0, 1) := by decide +kernel
theorem dX23_run_65 : decode cX23_run 65 = .ok (.invokevirtual 1176, 3) := by decide +kernel
theorem dX23_run_68 : decode cX23_run 68 = .ok (.aload_n 0, 1) := by decide +kernel
theorem dX23_run_69 : decode cX23_run 69 = .ok (.invokevirtual 89, 3) := by decide +kernel
theorem dX23_run_72 : decode cX23_run 72 = .ok (.ifCond .eq 7, 3) := by decide +kernel
theorem dX23_run_75 : decode cX23_run 75 = .ok (.aload_n 0, 1) := by decide +kernel
theorem dX23_run_76 : decode cX23_run 76 = .ok (.invokevirtual 1179, 3) := by decide +kernel
theorem dX23_run_79 : decode cX23_run 79 = .ok (.aload_n 0, 1) := by decide +kernel
theorem dX23_run_80 : decode cX23_run 80 = .ok (.invokevirtual 89, 3) := by decide +kernel
theorem dX23_run_83 : decode cX23_run 83 = .ok (.ifCond .eq 7, 3) := by decide +kernel
theorem dX23_run_86 : decode cX23_run 86 = .ok (.aload_n 0, 1) := by decide +kernel
theorem dX23_run_87 : decode cX23_run 87 = .ok (.invokevirtual 1182, 3) := by decide +kernel
theorem dX23_run_90 : decode cX23_run 90 = .ok (.aload_n 0, 1) := by decide +kernel
theorem dX23_run_91 : decode cX23_run 91 = .ok (.aload_n 0, 1) := by decide +kernel
theorem dX23_run_92 : decode cX23_run 92 = .ok (.invokevirtual 89, 3) := by decide +kernel
theorem dX23_run_95 : decode cX23_run 95 = .ok (.ifCond .eq 7, 3) := by decide +kernel
theorem dX23_run_98 : decode cX23_run 98 = .ok (.iconst (-1), 1) := by decide +kernel
theorem dX23_run_99 : decode cX23_run 99 = .ok (.goto 7, 3) := by decide +kernel
theorem dX23_run_102 : decode cX23_run 102 = .ok (.aload_n 0, 1) := by decide +kernel
theorem dX23_run_103 : decode cX23_run 103 = .ok (.getfield 83, 3) := by decide +kernel
theorem dX23_run_106 : decode cX23_run 106 = .ok (.putfield 966, 3) := by decide +kernel
theorem dX23_run_109 : decode cX23_run 109 = .ok (.aload_n 0, 1) := by decide +kernel
theorem dX23_run_110 : decode cX23_run 110 = .ok (.invokevirtual 89, 3) := by decide +kernel
theorem dX23_run_113 : decode cX23_run 113 = .ok (.ifCond .eq 7, 3) := by decide +kernel
theorem dX23_run_116 : decode cX23_run 116 = .ok (.aload_n 0, 1) := by decide +kernel
theorem dX23_run_117 : decode cX23_run 117 = .ok (.invokevirtual 1185, 3) := by decide +kernel
theorem dX23_run_120 : decode cX23_run 120 = .ok (.aload_n 0, 1) := by decide +kernel
theorem dX23_run_121 : decode cX23_run 121 = .ok (.aload_n 0, 1) := by decide +kernel
theorem dX23_run_122 : decode cX23_run 122 = .ok (.getfield 1093, 3) := by decide +kernel
theorem dX23_run_125 : decode cX23_run 125 = .ok (.putfield 1188, 3) := by decide +kernel
theorem dX23_run_128 : decode cX23_run 128 = .ok (.aload_n 0, 1) := by decide +kernel
theorem dX23_run_129 : decode cX23_run 129 = .ok (.getfield 80, 3) := by decide +kernel
theorem dX23_run_132 : decode cX23_run 132 = .ok (.ireturn, 1) := by decide +kernel
theorem dX23_place__0 : decode cX23_place_ 0 = .ok (.aload_n 0, 1) := by decide +kernel
theorem dX23_place__1 : decode cX23_place_ 1 = .ok (.getfield 966, 3) := by decide +kernel
theorem dX23_place__4 : decode cX23_place_ 4 = .ok (.ireturn, 1) := by decide +kernel
theorem dX23_endless_0 : decode cX23_endless 0 = .ok (.iconst 0, 1) := by decide +kernel
theorem dX23_endless_1 : decode cX23_endless 1 = .ok (.istore_n 1, 1) := by decide +kernel
theorem dX23_endless_2 : decode cX23_endless 2 = .ok (.iload_n 1, 1) := by decide +kernel
theorem dX23_endless_3 : decode cX23_endless 3 = .ok (.aload_n 0, 1) := by decide +kernel
theorem dX23_endless_4 : decode cX23_endless 4 = .ok (.getfield 221, 3) := by decide +kernel
theorem dX23_endless_7 : decode cX23_endless 7 = .ok (.if_icmp .ge 78, 3) := by decide +kernel
theorem dX23_endless_10 : decode cX23_endless 10 = .ok (.iconst 0, 1) := by decide +kernel
theorem dX23_endless_11 : decode cX23_endless 11 = .ok (.istore_n 2, 1) := by decide +kernel
theorem dX23_endless_12 : decode cX23_endless 12 = .ok (.iload_n 2, 1) := by decide +kernel
theorem dX23_endless_13 : decode cX23_endless 13 = .ok (.aload_n 0, 1) := by decide +kernel
theorem dX23_endless_14 : decode cX23_endless 14 = .ok (.getfield 221, 3) := by decide +kernel
theorem dX23_endless_17 : decode cX23_endless 17 = .ok (.if_icmp .ge 62, 3) := by decide +kernel
theorem dX23_endless_20 : decode cX23_endless 20 = .ok (.aload_n 0, 1) := by decide +kernel
theorem dX23_endless_21 : decode cX23_endless 21 = .ok (.getfield 432, 3) := by decide +kernel
theorem dX23_endless_24 : decode cX23_endless 24 = .ok (.bipush 70, 2) := by decide +kernel
theorem dX23_endless_26 : decode cX23_endless 26 = .ok (.iload_n 1, 1) := by decide +kernel
theorem dX23_endless_27 : decode cX23_endless 27 = .ok (.imul, 1) := by decide +kernel
theorem dX23_endless_28 : decode cX23_endless 28 = .ok (.iload_n 2, 1) := by decide +kernel
theorem dX23_endless_29 : decode cX23_endless 29 = .ok (.iadd, 1) := by decide +kernel
theorem dX23_endless_30 : decode cX23_endless 30 = .ok (.aload_n 0, 1) := by decide +kernel
theorem dX23_endless_31 : decode cX23_endless 31 = .ok (.getfield 232, 3) := by decide +kernel
theorem dX23_endless_34 : decode cX23_endless 34 = .ok (.iload_n 1, 1) := by decide +kernel
theorem dX23_endless_35 : decode cX23_endless 35 = .ok (.aaload, 1) := by decide +kernel
theorem dX23_endless_36 : decode cX23_endless 36 = .ok (.getfield 174, 3) := by decide +kernel
theorem dX23_endless_39 : decode cX23_endless 39 = .ok (.bipush 12, 2) := by decide +kernel
theorem dX23_endless_41 : decode cX23_endless 41 = .ok (.if_icmp .eq 30, 3) := by decide +kernel
theorem dX23_endless_44 : decode cX23_endless 44 = .ok (.aload_n 0, 1) := by decide +kernel
theorem dX23_endless_45 : decode cX23_endless 45 = .ok (.getfield 232, 3) := by decide +kernel
theorem dX23_endless_48 : decode cX23_endless 48 = .ok (.iload_n 2, 1) := by decide +kernel
theorem dX23_endless_49 : decode cX23_endless 49 = .ok (.aaload, 1) := by decide +kernel
theorem dX23_endless_50 : decode cX23_endless 50 = .ok (.getfield 174, 3) := by decide +kernel
theorem dX23_endless_53 : decode cX23_endless 53 = .ok (.bipush 12, 2) := by decide +kernel
theorem dX23_endless_55 : decode cX23_endless 55 = .ok (.if_icmp .eq 16, 3) := by decide +kernel
theorem dX23_endless_58 : decode cX23_endless 58 = .ok (.aload_n 0, 1) := by decide +kernel
theorem dX23_endless_59 : decode cX23_endless 59 = .ok (.iload_n 1, 1) := by decide +kernel
theorem dX23_endless_60 : decode cX23_endless 60 = .ok (.iload_n 2, 1) := by decide +kernel
theorem dX23_endless_61 : decode cX23_endless 61 = .ok (.invokevirtual 436, 3) := by decide +kernel
theorem dX23_endless_64 : decode cX23_endless 64 = .ok (.ifCond .eq 7, 3) := by decide +kernel
theorem dX23_endless_67 : decode cX23_endless 67 = .ok (.iconst 1, 1) := by decide +kernel
theorem dX23_endless_68 : decode cX23_endless 68 = .ok (.goto 4, 3) := by decide +kernel
theorem dX23_endless_71 : decode cX23_endless 71 = .ok (.iconst 0, 1) := by decide +kernel
theorem dX23_endless_72 : decode cX23_endless 72 = .ok (.bastore, 1) := by decide +kernel
theorem dX23_endless_73 : decode cX23_endless 73 = .ok (.iinc 2 1, 3) := by decide +kernel
theorem dX23_endless_76 : decode cX23_endless 76 = .ok (.goto (-64), 3) := by decide +kernel
theorem dX23_endless_79 : decode cX23_endless 79 = .ok (.iinc 1 1, 3) := by decide +kernel
theorem dX23_endless_82 : decode cX23_endless 82 = .ok (.goto (-80), 3) := by decide +kernel
theorem dX23_endless_85 : decode cX23_endless 85 = .ok (.iconst 0, 1) := by decide +kernel
theorem dX23_endless_86 : decode cX23_endless 86 = .ok (.istore_n 1, 1) := by decide +kernel
theorem dX23_endless_87 : decode cX23_endless 87 = .ok (.iload_n 1, 1) := by decide +kernel
theorem dX23_endless_88 : decode cX23_endless 88 = .ok (.aload_n 0, 1) := by decide +kernel
theorem dX23_endless_89 : decode cX23_endless 89 = .ok (.getfield 221, 3) := by decide +kernel
theorem dX23_endless_92 : decode cX23_endless 92 = .ok (.if_icmp .ge 81, 3) := by decide +kernel
theorem dX23_endless_95 : decode cX23_endless 95 = .ok (.iconst 0, 1) := by decide +kernel
theorem dX23_endless_96 : decode cX23_endless 96 = .ok (.istore_n 2, 1) := by decide +kernel
theorem dX23_endless_97 : decode cX23_endless 97 = .ok (.iload_n 2, 1) := by decide +kernel
theorem dX23_endless_98 : decode cX23_endless 98 = .ok (.aload_n 0, 1) := by decide +kernel
theorem dX23_endless_99 : decode cX23_endless 99 = .ok (.getfield 221, 3) := by decide +kernel
theorem dX23_endless_102 : decode cX23_endless 102 = .ok (.if_icmp .ge 65, 3) := by decide +kernel
theorem dX23_endless_105 : decode cX23_endless 105 = .ok (.iconst 0, 1) := by decide +kernel
theorem dX23_endless_106 : decode cX23_endless 106 = .ok (.istore_n 3, 1) := by decide +kernel
theorem dX23_endless_107 : decode cX23_endless 107 = .ok (.iload_n 3, 1) := by decide +kernel
theorem dX23_endless_108 : decode cX23_endless 108 = .ok (.aload_n 0, 1) := by decide +kernel
theorem dX23_endless_109 : decode cX23_endless 109 = .ok (.getfield 221, 3) := by decide +kernel
theorem dX23_endless_112 : decode cX23_endless 112 = .ok (.if_icmp .ge 49, 3) := by decide +kernel
theorem dX23_endless_115 : decode cX23_endless 115 = .ok (.aload_n 0, 1) := by decide +kernel
theorem dX23_endless_116 : decode cX23_endless 116 = .ok (.getfield 432, 3) := by decide +kernel
theorem dX23_endless_119 : decode cX23_endless 119 = .ok (.bipush 70, 2) := by decide +kernel
theorem dX23_endless_121 : decode cX23_endless 121 = .ok (.iload_n 2, 1) := by decide +kernel
theorem dX23_endless_122 : decode cX23_endless 122 = .ok (.imul, 1) := by decide +kernel
theorem dX23_endless_123 : decode cX23_endless 123 = .ok (.iload_n 1, 1) := by decide +kernel
theorem dX23_endless_124 : decode cX23_endless 124 = .ok (.iadd, 1) := by decide +kernel
theorem dX23_endless_125 : decode cX23_endless 125 = .ok (.baload, 1) := by decide +kernel
theorem dX23_endless_126 : decode cX23_endless 126 = .ok (.ifCond .eq 29, 3) := by decide +kernel
theorem dX23_endless_129 : decode cX23_endless 129 = .ok (.aload_n 0, 1) := by decide +kernel
theorem dX23_endless_130 : decode cX23_endless 130 = .ok (.getfield 432, 3) := by decide +kernel
theorem dX23_endless_133 : decode cX23_endless 133 = .ok (.bipush 70, 2) := by decide +kernel
theorem dX23_endless_135 : decode cX23_endless 135 = .ok (.iload_n 1, 1) := by decide +kernel
theorem dX23_endless_136 : decode cX23_endless 136 = .ok (.imul, 1) := by decide +kernel
theorem dX23_endless_137 : decode cX23_endless 137 = .ok (.iload_n 3, 1) := by decide +kernel
theorem dX23_endless_138 : decode cX23_endless 138 = .ok (.iadd, 1) := by decide +kernel
theorem dX23_endless_139 : decode cX23_endless 139 = .ok (.baload, 1) := by decide +kernel
theorem dX23_endless_140 : decode cX23_endless 140 = .ok (.ifCond .eq 15, 3) := by decide +kernel
theorem dX23_endless_143 : decode cX23_endless 143 = .ok (.aload_n 0, 1) := by decide +kernel
theorem dX23_endless_144 : decode cX23_endless 144 = .ok (.getfield 432, 3) := by decide +kernel
theorem dX23_endless_147 : decode cX23_endless 147 = .ok (.bipush 70, 2) := by decide +kernel
theorem dX23_endless_149 : decode cX23_endless 149 = .ok (.iload_n 2, 1) := by decide +kernel
theorem dX23_endless_150 : decode cX23_endless 150 = .ok (.imul, 1) := by decide +kernel
theorem dX23_endless_151 : decode cX23_endless 151 = .ok (.iload_n 3, 1) := by decide +kernel
theorem dX23_endless_152 : decode cX23_endless 152 = .ok (.iadd, 1) := by decide +kernel
theorem dX23_endless_153 : decode cX23_endless 153 = .ok (.iconst 1, 1) := by decide +kernel
theorem dX23_endless_154 : decode cX23_endless 154 = .ok (.bastore, 1) := by decide +kernel
theorem dX23_endless_155 : decode cX23_endless 155 = .ok (.iinc 3 1, 3) := by decide +kernel
theorem dX23_endless_158 : decode cX23_endless 158 = .ok (.goto (-51), 3) := by decide +kernel
theorem dX23_endless_161 : decode cX23_endless 161 = .ok (.iinc 2 1, 3) := by decide +kernel
theorem dX23_endless_164 : decode cX23_endless 164 = .ok (.goto (-67), 3) := by decide +kernel
theorem dX23_endless_167 : decode cX23_endless 167 = .ok (.iinc 1 1, 3) := by decide +kernel
theorem dX23_endless_170 : decode cX23_endless 170 = .ok (.goto (-83), 3) := by decide +kernel
theorem dX23_endless_173 : decode cX23_endless 173 = .ok (.iconst 0, 1) := by decide +kernel
theorem dX23_endless_174 : decode cX23_endless 174 = .ok (.istore_n 1, 1) := by decide +kernel
theorem dX23_endless_175 : decode cX23_endless 175 = .ok (.iload_n 1, 1) := by decide +kernel
theorem dX23_endless_176 : decode cX23_endless 176 = .ok (.aload_n 0, 1) := by decide +kernel
theorem dX23_endless_177 : decode cX23_endless 177 = .ok (.getfield 221, 3) := by decide +kernel
theorem dX23_endless_180 : decode cX23_endless 180 = .ok (.if_icmp .ge 93, 3) := by decide +kernel
theorem dX23_endless_183 : decode cX23_endless 183 = .ok (.aload_n 0, 1) := by decide +kernel
theorem dX23_endless_184 : decode cX23_endless 184 = .ok (.getfield 232, 3) := by decide +kernel
theorem dX23_endless_187 : decode cX23_endless 187 = .ok (.iload_n 1, 1) := by decide +kernel
theorem dX23_endless_188 : decode cX23_endless 188 = .ok (.aaload, 1) := by decide +kernel
theorem dX23_endless_189 : decode cX23_endless 189 = .ok (.aload_n 0, 1) := by decide +kernel
theorem dX23_endless_190 : decode cX23_endless 190 = .ok (.getfield 432, 3) := by decide +kernel
theorem dX23_endless_193 : decode cX23_endless 193 = .ok (.bipush 70, 2) := by decide +kernel
theorem dX23_endless_195 : decode cX23_endless 195 = .ok (.iload_n 1, 1) := by decide +kernel
theorem dX23_endless_196 : decode cX23_endless 196 = .ok (.imul, 1) := by decide +kernel
theorem dX23_endless_197 : decode cX23_endless 197 = .ok (.iload_n 1, 1) := by decide +kernel
theorem dX23_endless_198 : decode cX23_endless 198 = .ok (.iadd, 1) := by decide +kernel
theorem dX23_endless_199 : decode cX23_endless 199 = .ok (.baload, 1) := by decide +kernel
theorem dX23_endless_200 : decode cX23_endless 200 = .ok (.putfield 439, 3) := by decide +kernel
theorem dX23_endless_203 : decode cX23_endless 203 = .ok (.iconst 0, 1) := by decide +kernel
theorem dX23_endless_204 : decode cX23_endless 204 = .ok (.istore_n 2, 1) := by decide +kernel
theorem dX23_endless_205 : decode cX23_endless 205 = .ok (.iload_n 2, 1) := by decide +kernel
theorem dX23_endless_206 : decode cX23_endless 206 = .ok (.aload_n 0, 1) := by decide +kernel
theorem dX23_endless_207 : decode cX23_endless 207 = .ok (.getfield 221, 3) := by decide +kernel
theorem dX23_endless_210 : decode cX23_endless 210 = .ok (.if_icmp .ge 47, 3) := by decide +kernel
theorem dX23_endless_213 : decode cX23_endless 213 = .ok (.aload_n 0, 1) := by decide +kernel
theorem dX23_endless_214 : decode cX23_endless 214 = .ok (.getfield 432, 3) := by decide +kernel
theorem dX23_endless_217 : decode cX23_endless 217 = .ok (.bipush 70, 2) := by decide +kernel
theorem dX23_endless_219 : decode cX23_endless 219 = .ok (.iload_n 1, 1) := by decide +kernel
theorem dX23_endless_220 : decode cX23_endless 220 = .ok (.imul, 1) := by decide +kernel
theorem dX23_endless_221 : decode cX23_endless 221 = .ok (.iload_n 2, 1) := by decide +kernel
theorem dX23_endless_222 : decode cX23_endless 222 = .ok (.iadd, 1) := by decide +kernel
theorem dX23_endless_223 : decode cX23_endless 223 = .ok (.baload, 1) := by decide +kernel
theorem dX23_endless_224 : decode cX23_endless 224 = .ok (.ifCond .eq 27, 3) := by decide +kernel
theorem dX23_endless_227 : decode cX23_endless 227 = .ok (.aload_n 0, 1) := by decide +kernel
theorem dX23_endless_228 : decode cX23_endless 228 = .ok (.getfield 432, 3) := by decide +kernel
theorem dX23_endless_231 : decode cX23_endless 231 = .ok (.bipush 70, 2) := by decide +kernel
theorem dX23_endless_233 : decode cX23_endless 233 = .ok (.iload_n 2, 1) := by decide +kernel
theorem dX23_endless_234 : decode cX23_endless 234 = .ok (.imul, 1) := by decide +kernel
theorem dX23_endless_235 : decode cX23_endless 235 = .ok (.iload_n 2, 1) := by decide +kernel
theorem dX23_endless_236 : decode cX23_endless 236 = .ok (.iadd, 1) := by decide +kernel
theorem dX23_endless_237 : decode cX23_endless 237 = .ok (.baload, 1) := by decide +kernel
theorem dX23_endless_238 : decode cX23_endless 238 = .ok (.ifCond .eq 13, 3) := by decide +kernel
theorem dX23_endless_241 : decode cX23_endless 241 = .ok (.aload_n 0, 1) := by decide +kernel
theorem dX23_endless_242 : decode cX23_endless 242 = .ok (.getfield 232, 3) := by decide +kernel
theorem dX23_endless_245 : decode cX23_endless 245 = .ok (.iload_n 1, 1) := by decide +kernel
theorem dX23_endless_246 : decode cX23_endless 246 = .ok (.aaload, 1) := by decide +kernel
theorem dX23_endless_247 : decode cX23_endless 247 = .ok (.iconst 1, 1) := by decide +kernel
theorem dX23_endless_248 : decode cX23_endless 248 = .ok (.putfield 439, 3) := by decide +kernel
theorem dX23_endless_251 : decode cX23_endless 251 = .ok (.iinc 2 1, 3) := by decide +kernel
theorem dX23_endless_254 : decode cX23_endless 254 = .ok (.goto (-49), 3) := by decide +kernel
theorem dX23_endless_257 : decode cX23_endless 257 = .ok (.aload_n 0, 1) := by decide +kernel
theorem dX23_endless_258 : decode cX23_endless 258 = .ok (.getfield 232, 3) := by decide +kernel
theorem dX23_endless_261 : decode cX23_endless 261 = .ok (.iload_n 1, 1) := by decide +kernel
theorem dX23_endless_262 : decode cX23_endless 262 = .ok (.aaload, 1) := by decide +kernel
theorem dX23_endless_263 : decode cX23_endless 263 = .ok (.iconst 0, 1) := by decide +kernel
theorem dX23_endless_264 : decode cX23_endless 264 = .ok (.putfield 442, 3) := by decide +kernel
theorem dX23_endless_267 : decode cX23_endless 267 = .ok (.iinc 1 1, 3) := by decide +kernel
theorem dX23_endless_270 : decode cX23_endless 270 = .ok (.goto (-95), 3) := by decide +kernel
theorem dX23_endless_273 : decode cX23_endless 273 = .ok (.return_, 1) := by decide +kernel
theorem dX23_fetch_0 : decode cX23_fetch 0 = .ok (.aload_n 0, 1) := by decide +kernel
theorem dX23_fetch_1 : decode cX23_fetch 1 = .ok (.getfield 1061, 3) := by decide +kernel
theorem dX23_fetch_4 : decode cX23_fetch 4 = .ok (.bipush 7, 2) := by decide +kernel
theorem dX23_fetch_6 : decode cX23_fetch 6 = .ok (.if_icmp .ge 10, 3) := by decide +kernel
theorem dX23_fetch_9 : decode cX23_fetch 9 = .ok (.aload_n 0, 1) := by decide +kernel
theorem dX23_fetch_10 : decode cX23_fetch 10 = .ok (.getfield 1061, 3) := by decide +kernel
theorem dX23_fetch_13 : decode cX23_fetch 13 = .ok (.goto 5, 3) := by decide +kernel
theorem dX23_fetch_16 : decode cX23_fetch 16 = .ok (.bipush 7, 2) := by decide +kernel
theorem dX23_fetch_18 : decode cX23_fetch 18 = .ok (.istore_n 1, 1) := by decide +kernel
theorem dX23_fetch_19 : decode cX23_fetch 19 = .ok (.iload_n 1, 1) := by decide +kernel
theorem dX23_fetch_20 : decode cX23_fetch 20 = .ok (.i2l, 1) := by decide +kernel
theorem dX23_fetch_21 : decode cX23_fetch 21 = .ok (.lstore_n 2, 1) := by decide +kernel
theorem dX23_fetch_22 : decode cX23_fetch 22 = .ok (.iconst 0, 1) := by decide +kernel
theorem dX23_fetch_23 : decode cX23_fetch 23 = .ok (.istore 4, 2) := by decide +kernel
theorem dX23_fetch_25 : decode cX23_fetch 25 = .ok (.iload 4, 2) := by decide +kernel
theorem dX23_fetch_27 : decode cX23_fetch 27 = .ok (.bipush 7, 2) := by decide +kernel
theorem dX23_fetch_29 : decode cX23_fetch 29 = .ok (.if_icmp .ge 55, 3) := by decide +kernel
theorem dX23_fetch_32 : decode cX23_fetch 32 = .ok (.lload_n 2, 1) := by decide +kernel
theorem dX23_fetch_33 : decode cX23_fetch 33 = .ok (.bipush 8, 2) := by decide +kernel
theorem dX23_fetch_35 : decode cX23_fetch 35 = .ok (.lshl, 1) := by decide +kernel
theorem dX23_fetch_36 : decode cX23_fetch 36 = .ok (.iload 4, 2) := by decide +kernel
theorem dX23_fetch_38 : decode cX23_fetch 38 = .ok (.iload_n 1, 1) := by decide +kernel
theorem dX23_fetch_39 : decode cX23_fetch 39 = .ok (.if_icmp .ge 15, 3) := by decide +kernel
theorem dX23_fetch_42 : decode cX23_fetch 42 = .ok (.aload_n 0, 1) := by decide +kernel
theorem dX23_fetch_43 : decode cX23_fetch 43 = .ok (.getfield 960, 3) := by decide +kernel
theorem dX23_fetch_46 : decode cX23_fetch 46 = .ok (.aload_n 0, 1) := by decide +kernel
theorem dX23_fetch_47 : decode cX23_fetch 47 = .ok (.getfield 1064, 3) := by decide +kernel
theorem dX23_fetch_50 : decode cX23_fetch 50 = .ok (.iaload, 1) := by decide +kernel
theorem dX23_fetch_51 : decode cX23_fetch 51 = .ok (.goto 4, 3) := by decide +kernel
theorem dX23_fetch_54 : decode cX23_fetch 54 = .ok (.iconst 0, 1) := by decide +kernel
theorem dX23_fetch_55 : decode cX23_fetch 55 = .ok (.i2l, 1) := by decide +kernel
theorem dX23_fetch_56 : decode cX23_fetch 56 = .ok (.lor, 1) := by decide +kernel
theorem dX23_fetch_57 : decode cX23_fetch 57 = .ok (.lstore_n 2, 1) := by decide +kernel
theorem dX23_fetch_58 : decode cX23_fetch 58 = .ok (.iload 4, 2) := by decide +kernel
theorem dX23_fetch_60 : decode cX23_fetch 60 = .ok (.iload_n 1, 1) := by decide +kernel
theorem dX23_fetch_61 : decode cX23_fetch 61 = .ok (.if_icmp .ge 17, 3) := by decide +kernel
theorem dX23_fetch_64 : decode cX23_fetch 64 = .ok (.aload_n 0, 1) := by decide +kernel
theorem dX23_fetch_65 : decode cX23_fetch 65 = .ok (.aload_n 0, 1) := by decide +kernel
theorem dX23_fetch_66 : decode cX23_fetch 66 = .ok (.getfield 1064, 3) := by decide +kernel
theorem dX23_fetch_69 : decode cX23_fetch 69 = .ok (.iconst 1, 1) := by decide +kernel
theorem dX23_fetch_70 : decode cX23_fetch 70 = .ok (.iadd, 1) := by decide +kernel
theorem dX23_fetch_71 : decode cX23_fetch 71 = .ok (.sipush 4000, 3) := by decide +kernel
theorem dX23_fetch_74 : decode cX23_fetch 74 = .ok (.irem, 1) := by decide +kernel
theorem dX23_fetch_75 : decode cX23_fetch 75 = .ok (.putfield 1064, 3) := by decide +kernel
theorem dX23_fetch_78 : decode cX23_fetch 78 = .ok (.iinc 4 1, 3) := by decide +kernel
theorem dX23_fetch_81 : decode cX23_fetch 81 = .ok (.goto (-56), 3) := by decide +kernel
theorem dX23_fetch_84 : decode cX23_fetch 84 = .ok (.aload_n 0, 1) := by decide +kernel
theorem dX23_fetch_85 : decode cX23_fetch 85 = .ok (.dup, 1) := by decide +kernel
theorem dX23_fetch_86 : decode cX23_fetch 86 = .ok (.getfield 1061, 3) := by decide +kernel
theorem dX23_fetch_89 : decode cX23_fetch 89 = .ok (.iload_n 1, 1) := by decide +kernel
theorem dX23_fetch_90 : decode cX23_fetch 90 = .ok (.isub, 1) := by decide +kernel
theorem dX23_fetch_91 : decode cX23_fetch 91 = .ok (.putfield 1061, 3) := by decide +kernel
theorem dX23_fetch_94 : decode cX23_fetch 94 = .ok (.lload_n 2, 1) := by decide +kernel
theorem dX23_fetch_95 : decode cX23_fetch 95 = .ok (.lreturn, 1) := by decide +kernel
theorem dX23_count_0 : decode cX23_count 0 = .ok (.iload_n 1, 1) := by decide +kernel
theorem dX23_count_1 : decode cX23_count 1 = .ok (.tableswitch 69 0 5 #[39, 44, 49, 54, 59, 64], 39) := by decide +kernel
theorem dX23_count_40 : decode cX23_count 40 = .ok (.aload_n 0, 1) := by decide +kernel
theorem dX23_count_41 : decode cX23_count 41 = .ok (.getfield 1188, 3) := by decide +kernel
theorem dX23_count_44 : decode cX23_count 44 = .ok (.ireturn, 1) := by decide +kernel
theorem dX23_count_45 : decode cX23_count 45 = .ok (.aload_n 0, 1) := by decide +kernel
theorem dX23_count_46 : decode cX23_count 46 = .ok (.getfield 1002, 3) := by decide +kernel
theorem dX23_count_49 : decode cX23_count 49 = .ok (.ireturn, 1) := by decide +kernel
theorem dX23_count_50 : decode cX23_count 50 = .ok (.aload_n 0, 1) := by decide +kernel
theorem dX23_count_51 : decode cX23_count 51 = .ok (.getfield 1008, 3) := by decide +kernel
theorem dX23_count_54 : decode cX23_count 54 = .ok (.ireturn, 1) := by decide +kernel
theorem dX23_count_55 : decode cX23_count 55 = .ok (.aload_n 0, 1) := by decide +kernel
theorem dX23_count_56 : decode cX23_count 56 = .ok (.getfield 1167, 3) := by decide +kernel
theorem dX23_count_59 : decode cX23_count 59 = .ok (.ireturn, 1) := by decide +kernel
theorem dX23_count_60 : decode cX23_count 60 = .ok (.aload_n 0, 1) := by decide +kernel
theorem dX23_count_61 : decode cX23_count 61 = .ok (.getfield 1061, 3) := by decide +kernel
theorem dX23_count_64 : decode cX23_count 64 = .ok (.ireturn, 1) := by decide +kernel
theorem dX23_count_65 : decode cX23_count 65 = .ok (.aload_n 0, 1) := by decide +kernel
theorem dX23_count_66 : decode cX23_count 66 = .ok (.getfield 1113, 3) := by decide +kernel
theorem dX23_count_69 : decode cX23_count 69 = .ok (.ireturn, 1) := by decide +kernel
theorem dX23_count_70 : decode cX23_count 70 = .ok (.iconst (-1), 1) := by decide +kernel
theorem dX23_count_71 : decode cX23_count 71 = .ok (.ireturn, 1) := by decide +kernel
theorem dX23_scan_0 : decode cX23_scan 0 = .ok (.aload_n 0, 1) := by decide +kernel
theorem dX23_scan_1 : decode cX23_scan 1 = .ok (.iconst 0, 1) := by decide +kernel
theorem dX23_scan_2 : decode cX23_scan 2 = .ok (.putfield 28, 3) := by decide +kernel
theorem dX23_scan_5 : decode cX23_scan 5 = .ok (.aload_n 0, 1) := by decide +kernel
theorem dX23_scan_6 : decode cX23_scan 6 = .ok (.iconst 0, 1) := by decide +kernel
theorem dX23_scan_7 : decode cX23_scan 7 = .ok (.invokevirtual 68, 3) := by decide +kernel
theorem dX23_scan_10 : decode cX23_scan 10 = .ok (.istore_n 1, 1) := by decide +kernel
theorem dX23_scan_11 : decode cX23_scan 11 = .ok (.iload_n 1, 1) := by decide +kernel
theorem dX23_scan_12 : decode cX23_scan 12 = .ok (.aload_n 0, 1) := by decide +kernel
theorem dX23_scan_13 : decode cX23_scan 13 = .ok (.getfield 1, 3) := by decide +kernel
theorem dX23_scan_16 : decode cX23_scan 16 = .ok (.if_icmp .ge 141, 3) := by decide +kernel
theorem dX23_scan_19 : decode cX23_scan 19 = .ok (.aload_n 0, 1) := by decide +kernel
theorem dX23_scan_20 : decode cX23_scan 20 = .ok (.getfield 28, 3) := by decide +kernel
theorem dX23_scan_23 : decode cX23_scan 23 = .ok (.ifCond .eq 18, 3) := by decide +kernel
theorem dX23_scan_26 : decode cX23_scan 26 = .ok (.aload_n 0, 1) := by decide +kernel
theorem dX23_scan_27 : decode cX23_scan 27 = .ok (.getfield 25, 3) := by decide +kernel
theorem dX23_scan_30 : decode cX23_scan 30 = .ok (.aload_n 0, 1) := by decide +kernel
theorem dX23_scan_31 : decode cX23_scan 31 = .ok (.getfield 28, 3) := by decide +kernel
theorem dX23_scan_34 : decode cX23_scan 34 = .ok (.iconst 1, 1) := by decide +kernel
theorem dX23_scan_35 : decode cX23_scan 35 = .ok (.isub, 1) := by decide +kernel
theorem dX23_scan_36 : decode cX23_scan 36 = .ok (.iaload, 1) := by decide +kernel
theorem dX23_scan_37 : decode cX23_scan 37 = .ok (.iconst 1, 1) := by decide +kernel
theorem dX23_scan_38 : decode cX23_scan 38 = .ok (.if_icmp .eq 119, 3) := by decide +kernel
theorem dX23_scan_41 : decode cX23_scan 41 = .ok (.aload_n 0, 1) := by decide +kernel
theorem dX23_scan_42 : decode cX23_scan 42 = .ok (.iload_n 1, 1) := by decide +kernel
theorem dX23_scan_43 : decode cX23_scan 43 = .ok (.invokevirtual 11, 3) := by decide +kernel
theorem dX23_scan_46 : decode cX23_scan 46 = .ok (.istore_n 2, 1) := by decide +kernel
theorem dX23_scan_47 : decode cX23_scan 47 = .ok (.iload_n 2, 1) := by decide +kernel
theorem dX23_scan_48 : decode cX23_scan 48 = .ok (.bipush 39, 2) := by decide +kernel
theorem dX23_scan_50 : decode cX23_scan 50 = .ok (.if_icmp .ne 12, 3) := by decide +kernel
theorem dX23_scan_53 : decode cX23_scan 53 = .ok (.aload_n 0, 1) := by decide +kernel
theorem dX23_scan_54 : decode cX23_scan 54 = .ok (.iload_n 1, 1) := by decide +kernel
theorem dX23_scan_55 : decode cX23_scan 55 = .ok (.invokevirtual 71, 3) := by decide +kernel
theorem dX23_scan_58 : decode cX23_scan 58 = .ok (.istore_n 1, 1) := by decide +kernel
theorem dX23_scan_59 : decode cX23_scan 59 = .ok (.goto 89, 3) := by decide +kernel
theorem dX23_scan_62 : decode cX23_scan 62 = .ok (.iload_n 2, 1) := by decide +kernel
theorem dX23_scan_63 : decode cX23_scan 63 = .ok (.invokestatic 48, 3) := by decide +kernel
theorem dX23_scan_66 : decode cX23_scan 66 = .ok (.ifCond .eq 61, 3) := by decide +kernel
theorem dX23_scan_69 : decode cX23_scan 69 = .ok (.iload_n 1, 1) := by decide +kernel
theorem dX23_scan_70 : decode cX23_scan 70 = .ok (.istore_n 3, 1) := by decide +kernel
theorem dX23_scan_71 : decode cX23_scan 71 = .ok (.aload_n 0, 1) := by decide +kernel
theorem dX23_scan_72 : decode cX23_scan 72 = .ok (.iload_n 1, 1) := by decide +kernel
theorem dX23_scan_73 : decode cX23_scan 73 = .ok (.invokevirtual 11, 3) := by decide +kernel
theorem dX23_scan_76 : decode cX23_scan 76 = .ok (.invokestatic 48, 3) := by decide +kernel
theorem dX23_scan_79 : decode cX23_scan 79 = .ok (.ifCond .ne 14, 3) := by decide +kernel
theorem dX23_scan_82 : decode cX23_scan 82 = .ok (.aload_n 0, 1) := by decide +kernel
theorem dX23_scan_83 : decode cX23_scan 83 = .ok (.iload_n 1, 1) := by decide +kernel
theorem dX23_scan_84 : decode cX23_scan 84 = .ok (.invokevirtual 11, 3) := by decide +kernel
theorem dX23_scan_87 : decode cX23_scan 87 = .ok (.invokestatic 40, 3) := by decide +kernel
theorem dX23_scan_90 : decode cX23_scan 90 = .ok (.ifCond .eq 9, 3) := by decide +kernel
theorem dX23_scan_93 : decode cX23_scan 93 = .ok (.iinc 1 1, 3) := by decide +kernel
theorem dX23_scan_96 : decode cX23_scan 96 = .ok (.goto (-25), 3) := by decide +kernel
theorem dX23_scan_99 : decode cX23_scan 99 = .ok (.aload_n 0, 1) := by decide +kernel
theorem dX23_scan_100 : decode cX23_scan 100 = .ok (.iload_n 1, 1) := by decide +kernel
theorem dX23_scan_101 : decode cX23_scan 101 = .ok (.iload_n 3, 1) := by decide +kernel
theorem dX23_scan_102 : decode cX23_scan 102 = .ok (.isub, 1) := by decide +kernel
theorem dX23_scan_103 : decode cX23_scan 103 = .ok (.bipush 20, 2) := by decide +kernel
theorem dX23_scan_105 : decode cX23_scan 105 = .ok (.if_icmp .le 7, 3) := by decide +kernel
theorem dX23_scan_108 : decode cX23_scan 108 = .ok (.iconst 1, 1) := by decide +kernel
theorem dX23_scan_109 : decode cX23_scan 109 = .ok (.goto 9, 3) := by decide +kernel
theorem dX23_scan_112 : decode cX23_scan 112 = .ok (.aload_n 0, 1) := by decide +kernel
theorem dX23_scan_113 : decode cX23_scan 113 = .ok (.iload_n 3, 1) := by decide +kernel
theorem dX23_scan_114 : decode cX23_scan 114 = .ok (.iload_n 1, 1) := by decide +kernel
theorem dX23_scan_115 : decode cX23_scan 115 = .ok (.invokevirtual 64, 3) := by decide +kernel
theorem dX23_scan_118 : decode cX23_scan 118 = .ok (.iload_n 3, 1) := by decide +kernel
theorem dX23_scan_119 : decode cX23_scan 119 = .ok (.iload_n 1, 1) := by decide +kernel
theorem dX23_scan_120 : decode cX23_scan 120 = .ok (.lconst 0, 1) := by decide +kernel
theorem dX23_scan_121 : decode cX23_scan 121 = .ok (.invokevirtual 51, 3) := by decide +kernel
theorem dX23_scan_124 : decode cX23_scan 124 = .ok (.goto 24, 3) := by decide +kernel
theorem dX23_scan_127 : decode cX23_scan 127 = .ok (.iload_n 2, 1) := by decide +kernel
theorem dX23_scan_128 : decode cX23_scan 128 = .ok (.invokestatic 40, 3) := by decide +kernel
theorem dX23_scan_131 : decode cX23_scan 131 = .ok (.ifCond .eq 11, 3) := by decide +kernel
theorem dX23_scan_134 : decode cX23_scan 134 = .ok (.aload_n 0, 1) := by decide +kernel
theorem dX23_scan_135 : decode cX23_scan 135 = .ok (.iload_n 1, 1) := by decide +kernel
theorem dX23_scan_136 : decode cX23_scan 136 = .ok (.invokevirtual 74, 3) := by decide +kernel
theorem dX23_scan_139 : decode cX23_scan 139 = .ok (.goto 8, 3) := by decide +kernel
theorem dX23_scan_142 : decode cX23_scan 142 = .ok (.aload_n 0, 1) := by decide +kernel
theorem dX23_scan_143 : decode cX23_scan 143 = .ok (.iload_n 1, 1) := by decide +kernel
theorem dX23_scan_144 : decode cX23_scan 144 = .ok (.invokevirtual 77, 3) := by decide +kernel
theorem dX23_scan_147 : decode cX23_scan 147 = .ok (.istore_n 1, 1) := by decide +kernel
theorem dX23_scan_148 : decode cX23_scan 148 = .ok (.aload_n 0, 1) := by decide +kernel
theorem dX23_scan_149 : decode cX23_scan 149 = .ok (.iload_n 1, 1) := by decide +kernel
theorem dX23_scan_150 : decode cX23_scan 150 = .ok (.invokevirtual 68, 3) := by decide +kernel
theorem dX23_scan_153 : decode cX23_scan 153 = .ok (.istore_n 1, 1) := by decide +kernel
theorem dX23_scan_154 : decode cX23_scan 154 = .ok (.goto (-143), 3) := by decide +kernel
theorem dX23_scan_157 : decode cX23_scan 157 = .ok (.aload_n 0, 1) := by decide +kernel
theorem dX23_scan_158 : decode cX23_scan 158 = .ok (.iconst 0, 1) := by decide +kernel
theorem dX23_scan_159 : decode cX23_scan 159 = .ok (.aload_n 0, 1) := by decide +kernel
theorem dX23_scan_160 : decode cX23_scan 160 = .ok (.getfield 1, 3) := by decide +kernel
theorem dX23_scan_163 : decode cX23_scan 163 = .ok (.aload_n 0, 1) := by decide +kernel
theorem dX23_scan_164 : decode cX23_scan 164 = .ok (.getfield 1, 3) := by decide +kernel
theorem dX23_scan_167 : decode cX23_scan 167 = .ok (.lconst 0, 1) := by decide +kernel
theorem dX23_scan_168 : decode cX23_scan 168 = .ok (.invokevirtual 51, 3) := by decide +kernel
theorem dX23_scan_171 : decode cX23_scan 171 = .ok (.return_, 1) := by decide +kernel
theorem dX23_behindBlanks_0 : decode cX23_behindBlanks 0 = .ok (.iload_n 1, 1) := by decide +kernel
theorem dX23_behindBlanks_1 : decode cX23_behindBlanks 1 = .ok (.istore_n 2, 1) := by decide +kernel
theorem dX23_behindBlanks_2 : decode cX23_behindBlanks 2 = .ok (.iconst 1, 1) := by decide +kernel
theorem dX23_behindBlanks_3 : decode cX23_behindBlanks 3 = .ok (.istore_n 3, 1) := by decide +kernel
theorem dX23_behindBlanks_4 : decode cX23_behindBlanks 4 = .ok (.iload_n 3, 1) := by decide +kernel
theorem dX23_behindBlanks_5 : decode cX23_behindBlanks 5 = .ok (.ifCond .eq 142, 3) := by decide +kernel
theorem dX23_behindBlanks_8 : decode cX23_behindBlanks 8 = .ok (.iconst 0, 1) := by decide +kernel
theorem dX23_behindBlanks_9 : decode cX23_behindBlanks 9 = .ok (.istore_n 3, 1) := by decide +kernel
theorem dX23_behindBlanks_10 : decode cX23_behindBlanks 10 = .ok (.aload_n 0, 1) := by decide +kernel
theorem dX23_behindBlanks_11 : decode cX23_behindBlanks 11 = .ok (.iload_n 2, 1) := by decide +kernel
theorem dX23_behindBlanks_12 : decode cX23_behindBlanks 12 = .ok (.invokevirtual 11, 3) := by decide +kernel
theorem dX23_behindBlanks_15 : decode cX23_behindBlanks 15 = .ok (.bipush 9, 2) := by decide +kernel
theorem dX23_behindBlanks_17 : decode cX23_behindBlanks 17 = .ok (.if_icmp .eq 33, 3) := by decide +kernel
theorem dX23_behindBlanks_20 : decode cX23_behindBlanks 20 = .ok (.aload_n 0, 1) := by decide +kernel
theorem dX23_behindBlanks_21 : decode cX23_behindBlanks 21 = .ok (.iload_n 2, 1) := by decide +kernel
theorem dX23_behindBlanks_22 : decode cX23_behindBlanks 22 = .ok (.invokevirtual 11, 3) := by decide +kernel
theorem dX23_behindBlanks_25 : decode cX23_behindBlanks 25 = .ok (.bipush 10, 2) := by decide +kernel
theorem dX23_behindBlanks_27 : decode cX23_behindBlanks 27 = .ok (.if_icmp .eq 23, 3) := by decide +kernel
theorem dX23_behindBlanks_30 : decode cX23_behindBlanks 30 = .ok (.aload_n 0, 1) := by decide +kernel
theorem dX23_behindBlanks_31 : decode cX23_behindBlanks 31 = .ok (.iload_n 2, 1) := by decide +kernel
theorem dX23_behindBlanks_32 : decode cX23_behindBlanks 32 = .ok (.invokevirtual 11, 3) := by decide +kernel
theorem dX23_behindBlanks_35 : decode cX23_behindBlanks 35 = .ok (.bipush 13, 2) := by decide +kernel
theorem dX23_behindBlanks_37 : decode cX23_behindBlanks 37 = .ok (.if_icmp .eq 13, 3) := by decide +kernel
theorem dX23_behindBlanks_40 : decode cX23_behindBlanks 40 = .ok (.aload_n 0, 1) := by decide +kernel
theorem dX23_behindBlanks_41 : decode cX23_behindBlanks 41 = .ok (.iload_n 2, 1) := by decide +kernel
theorem dX23_behindBlanks_42 : decode cX23_behindBlanks 42 = .ok (.invokevirtual 11, 3) := by decide +kernel
theorem dX23_behindBlanks_45 : decode cX23_behindBlanks 45 = .ok (.bipush 32, 2) := by decide +kernel
theorem dX23_behindBlanks_47 : decode cX23_behindBlanks 47 = .ok (.if_icmp .ne 9, 3) := by decide +kernel
theorem dX23_behindBlanks_50 : decode cX23_behindBlanks 50 = .ok (.iinc 2 1, 3) := by decide +kernel
theorem dX23_behindBlanks_53 : decode cX23_behindBlanks 53 = .ok (.goto (-43), 3) := by decide +kernel
theorem dX23_behindBlanks_56 : decode cX23_behindBlanks 56 = .ok (.aload_n 0, 1) := by decide +kernel
theorem dX23_behindBlanks_57 : decode cX23_behindBlanks 57 = .ok (.iload_n 2, 1) := by decide +kernel
theorem dX23_behindBlanks_58 : decode cX23_behindBlanks 58 = .ok (.invokevirtual 11, 3) := by decide +kernel
theorem dX23_behindBlanks_61 : decode cX23_behindBlanks 61 = .ok (.bipush 47, 2) := by decide +kernel
theorem dX23_behindBlanks_63 : decode cX23_behindBlanks 63 = .ok (.if_icmp .ne (-59), 3) := by decide +kernel
theorem dX23_behindBlanks_66 : decode cX23_behindBlanks 66 = .ok (.aload_n 0, 1) := by decide +kernel
theorem dX23_behindBlanks_67 : decode cX23_behindBlanks 67 = .ok (.iload_n 2, 1) := by decide +kernel
theorem dX23_behindBlanks_68 : decode cX23_behindBlanks 68 = .ok (.iconst 1, 1) := by decide +kernel
theorem dX23_behindBlanks_69 : decode cX23_behindBlanks 69 = .ok (.iadd, 1) := by decide +kernel
theorem dX23_behindBlanks_70 : decode cX23_behindBlanks 70 = .ok (.invokevirtual 11, 3) := by decide +kernel
theorem dX23_behindBlanks_73 : decode cX23_behindBlanks 73 = .ok (.bipush 47, 2) := by decide +kernel
theorem dX23_behindBlanks_75 : decode cX23_behindBlanks 75 = .ok (.if_icmp .ne (-71), 3) := by decide +kernel
theorem dX23_behindBlanks_78 : decode cX23_behindBlanks 78 = .ok (.iload_n 2, 1) := by decide +kernel
theorem dX23_behindBlanks_79 : decode cX23_behindBlanks 79 = .ok (.aload_n 0, 1) := by decide +kernel
theorem dX23_behindBlanks_80 : decode cX23_behindBlanks 80 = .ok (.getfield 1, 3) := by decide +kernel
theorem dX23_behindBlanks_83 : decode cX23_behindBlanks 83 = .ok (.if_icmp .ge 59, 3) := by decide +kernel
theorem dX23_behindBlanks_86 : decode cX23_behindBlanks 86 = .ok (.aload_n 0, 1) := by decide +kernel
theorem dX23_behindBlanks_87 : decode cX23_behindBlanks 87 = .ok (.iload_n 2, 1) := by decide +kernel
theorem dX23_behindBlanks_88 : decode cX23_behindBlanks 88 = .ok (.invokevirtual 11, 3) := by decide +kernel
theorem dX23_behindBlanks_91 : decode cX23_behindBlanks 91 = .ok (.bipush 10, 2) := by decide +kernel
theorem dX23_behindBlanks_93 : decode cX23_behindBlanks 93 = .ok (.if_icmp .eq 49, 3) := by decide +kernel
theorem dX23_behindBlanks_96 : decode cX23_behindBlanks 96 = .ok (.aload_n 0, 1) := by decide +kernel
theorem dX23_behindBlanks_97 : decode cX23_behindBlanks 97 = .ok (.iload_n 2, 1) := by decide +kernel
theorem dX23_behindBlanks_98 : decode cX23_behindBlanks 98 = .ok (.invokevirtual 11, 3) := by decide +kernel
theorem dX23_behindBlanks_101 : decode cX23_behindBlanks 101 = .ok (.bipush 9, 2) := by decide +kernel
theorem dX23_behindBlanks_103 : decode cX23_behindBlanks 103 = .ok (.if_icmp .eq 33, 3) := by decide +kernel
theorem dX23_behindBlanks_106 : decode cX23_behindBlanks 106 = .ok (.aload_n 0, 1) := by decide +kernel
theorem dX23_behindBlanks_107 : decode cX23_behindBlanks 107 = .ok (.iload_n 2, 1) := by decide +kernel
theorem dX23_behindBlanks_108 : decode cX23_behindBlanks 108 = .ok (.invokevirtual 11, 3) := by decide +kernel
theorem dX23_behindBlanks_111 : decode cX23_behindBlanks 111 = .ok (.bipush 13, 2) := by decide +kernel
theorem dX23_behindBlanks_113 : decode cX23_behindBlanks 113 = .ok (.if_icmp .eq 23, 3) := by decide +kernel
theorem dX23_behindBlanks_116 : decode cX23_behindBlanks 116 = .ok (.aload_n 0, 1) := by decide +kernel
theorem dX23_behindBlanks_117 : decode cX23_behindBlanks 117 = .ok (.iload_n 2, 1) := by decide +kernel
theorem dX23_behindBlanks_118 : decode cX23_behindBlanks 118 = .ok (.invokevirtual 11, 3) := by decide +kernel
theorem dX23_behindBlanks_121 : decode cX23_behindBlanks 121 = .ok (.bipush 32, 2) := by decide +kernel
theorem dX23_behindBlanks_123 : decode cX23_behindBlanks 123 = .ok (.if_icmp .lt 19, 3) := by decide +kernel
theorem dX23_behindBlanks_126 : decode cX23_behindBlanks 126 = .ok (.aload_n 0, 1) := by decide +kernel
theorem dX23_behindBlanks_127 : decode cX23_behindBlanks 127 = .ok (.iload_n 2, 1) := by decide +kernel
theorem dX23_behindBlanks_128 : decode cX23_behindBlanks 128 = .ok (.invokevirtual 11, 3) := by decide +kernel
theorem dX23_behindBlanks_131 : decode cX23_behindBlanks 131 = .ok (.bipush 126, 2) := by decide +kernel
theorem dX23_behindBlanks_133 : decode cX23_behindBlanks 133 = .ok (.if_icmp .gt 9, 3) := by decide +kernel
theorem dX23_behindBlanks_136 : decode cX23_behindBlanks 136 = .ok (.iinc 2 1, 3) := by decide +kernel
theorem dX23_behindBlanks_139 : decode cX23_behindBlanks 139 = .ok (.goto (-61), 3) := by decide +kernel
theorem dX23_behindBlanks_142 : decode cX23_behindBlanks 142 = .ok (.iconst 1, 1) := by decide +kernel
theorem dX23_behindBlanks_143 : decode cX23_behindBlanks 143 = .ok (.istore_n 3, 1) := by decide +kernel
theorem dX23_behindBlanks_144 : decode cX23_behindBlanks 144 = .ok (.goto (-140), 3) := by decide +kernel
theorem dX23_behindBlanks_147 : decode cX23_behindBlanks 147 = .ok (.iload_n 2, 1) := by decide +kernel
theorem dX23_behindBlanks_148 : decode cX23_behindBlanks 148 = .ok (.ireturn, 1) := by decide +kernel
theorem dX23_at_0 : decode cX23_at 0 = .ok (.iload_n 1, 1) := by decide +kernel
theorem dX23_at_1 : decode cX23_at 1 = .ok (.aload_n 0, 1) := by decide +kernel
theorem dX23_at_2 : decode cX23_at 2 = .ok (.getfield 1, 3) := by decide +kernel
theorem dX23_at_5 : decode cX23_at 5 = .ok (.if_icmp .ge 12, 3) := by decide +kernel
theorem dX23_at_8 : decode cX23_at 8 = .ok (.aload_n 0, 1) := by decide +kernel
theorem dX23_at_9 : decode cX23_at 9 = .ok (.getfield 7, 3) := by decide +kernel
theorem dX23_at_12 : decode cX23_at 12 = .ok (.iload_n 1, 1) := by decide +kernel
