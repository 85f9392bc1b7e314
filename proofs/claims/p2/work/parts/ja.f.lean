theorem dX23_told_0 : decode cX23_told 0 = .ok (.aload_n 1, 1) := by decide +kernel
theorem dX23_told_1 : decode cX23_told 1 = .ok (.aload_n 2, 1) := by decide +kernel
theorem dX23_told_2 : decode cX23_told 2 = .ok (.putfield 484, 3) := by decide +kernel
theorem dX23_told_5 : decode cX23_told 5 = .ok (.aload_n 2, 1) := by decide +kernel
theorem dX23_told_6 : decode cX23_told 6 = .ok (.areturn, 1) := by decide +kernel
theorem dX23_wrong_0 : decode cX23_wrong 0 = .ok (.aload_n 0, 1) := by decide +kernel
theorem dX23_wrong_1 : decode cX23_wrong 1 = .ok (.iload_n 2, 1) := by decide +kernel
theorem dX23_wrong_2 : decode cX23_wrong 2 = .ok (.iload_n 3, 1) := by decide +kernel
theorem dX23_wrong_3 : decode cX23_wrong 3 = .ok (.invokevirtual 96, 3) := by decide +kernel
theorem dX23_wrong_6 : decode cX23_wrong 6 = .ok (.aload_n 0, 1) := by decide +kernel
theorem dX23_wrong_7 : decode cX23_wrong 7 = .ok (.aload_n 1, 1) := by decide +kernel
theorem dX23_wrong_8 : decode cX23_wrong 8 = .ok (.aload_n 0, 1) := by decide +kernel
theorem dX23_wrong_9 : decode cX23_wrong 9 = .ok (.iconst 0, 1) := by decide +kernel
theorem dX23_wrong_10 : decode cX23_wrong 10 = .ok (.invokevirtual 405, 3) := by decide +kernel
theorem dX23_wrong_13 : decode cX23_wrong 13 = .ok (.invokevirtual 485, 3) := by decide +kernel
theorem dX23_wrong_16 : decode cX23_wrong 16 = .ok (.areturn, 1) := by decide +kernel
