theorem dX23_declare_0 : decode cX23_declare 0 = .ok (.new 192, 3) := by decide +kernel
theorem dX23_declare_3 : decode cX23_declare 3 = .ok (.dup, 1) := by decide +kernel
theorem dX23_declare_4 : decode cX23_declare 4 = .ok (.invokespecial 465, 3) := by decide +kernel
theorem dX23_declare_7 : decode cX23_declare 7 = .ok (.astore 4, 2) := by decide +kernel
theorem dX23_declare_9 : decode cX23_declare 9 = .ok (.aload 4, 2) := by decide +kernel
theorem dX23_declare_11 : decode cX23_declare 11 = .ok (.aload_n 0, 1) := by decide +kernel
theorem dX23_declare_12 : decode cX23_declare 12 = .ok (.getfield 466, 3) := by decide +kernel
theorem dX23_declare_15 : decode cX23_declare 15 = .ok (.putfield 469, 3) := by decide +kernel
theorem dX23_declare_18 : decode cX23_declare 18 = .ok (.aload 4, 2) := by decide +kernel
theorem dX23_declare_20 : decode cX23_declare 20 = .ok (.iload_n 1, 1) := by decide +kernel
theorem dX23_declare_21 : decode cX23_declare 21 = .ok (.putfield 470, 3) := by decide +kernel
theorem dX23_declare_24 : decode cX23_declare 24 = .ok (.aload 4, 2) := by decide +kernel
theorem dX23_declare_26 : decode cX23_declare 26 = .ok (.aload_n 2, 1) := by decide +kernel
theorem dX23_declare_27 : decode cX23_declare 27 = .ok (.putfield 471, 3) := by decide +kernel
theorem dX23_declare_30 : decode cX23_declare 30 = .ok (.aload 4, 2) := by decide +kernel
theorem dX23_declare_32 : decode cX23_declare 32 = .ok (.iload_n 3, 1) := by decide +kernel
theorem dX23_declare_33 : decode cX23_declare 33 = .ok (.putfield 473, 3) := by decide +kernel
theorem dX23_declare_36 : decode cX23_declare 36 = .ok (.aload_n 0, 1) := by decide +kernel
theorem dX23_declare_37 : decode cX23_declare 37 = .ok (.dup, 1) := by decide +kernel
theorem dX23_declare_38 : decode cX23_declare 38 = .ok (.getfield 466, 3) := by decide +kernel
theorem dX23_declare_41 : decode cX23_declare 41 = .ok (.iconst 1, 1) := by decide +kernel
theorem dX23_declare_42 : decode cX23_declare 42 = .ok (.iadd, 1) := by decide +kernel
theorem dX23_declare_43 : decode cX23_declare 43 = .ok (.putfield 466, 3) := by decide +kernel
theorem dX23_declare_46 : decode cX23_declare 46 = .ok (.aload_n 0, 1) := by decide +kernel
theorem dX23_declare_47 : decode cX23_declare 47 = .ok (.getfield 474, 3) := by decide +kernel
theorem dX23_declare_50 : decode cX23_declare 50 = .ok (.aload_n 0, 1) := by decide +kernel
theorem dX23_declare_51 : decode cX23_declare 51 = .ok (.getfield 477, 3) := by decide +kernel
theorem dX23_declare_54 : decode cX23_declare 54 = .ok (.aload 4, 2) := by decide +kernel
theorem dX23_declare_56 : decode cX23_declare 56 = .ok (.aastore, 1) := by decide +kernel
theorem dX23_declare_57 : decode cX23_declare 57 = .ok (.aload_n 0, 1) := by decide +kernel
theorem dX23_declare_58 : decode cX23_declare 58 = .ok (.dup, 1) := by decide +kernel
theorem dX23_declare_59 : decode cX23_declare 59 = .ok (.getfield 477, 3) := by decide +kernel
theorem dX23_declare_62 : decode cX23_declare 62 = .ok (.iconst 1, 1) := by decide +kernel
theorem dX23_declare_63 : decode cX23_declare 63 = .ok (.iadd, 1) := by decide +kernel
theorem dX23_declare_64 : decode cX23_declare 64 = .ok (.putfield 477, 3) := by decide +kernel
theorem dX23_declare_67 : decode cX23_declare 67 = .ok (.aload 4, 2) := by decide +kernel
theorem dX23_declare_69 : decode cX23_declare 69 = .ok (.areturn, 1) := by decide +kernel
