theorem dX1_init_0 : decode cX1_init 0 = .ok (.aload_n 0, 1) := by decide +kernel
theorem dX1_init_1 : decode cX1_init 1 = .ok (.invokespecial 3, 3) := by decide +kernel
theorem dX1_init_4 : decode cX1_init 4 = .ok (.aload_n 0, 1) := by decide +kernel
theorem dX1_init_5 : decode cX1_init 5 = .ok (.bipush 8, 2) := by decide +kernel
theorem dX1_init_7 : decode cX1_init 7 = .ok (.bipush 51, 2) := by decide +kernel
theorem dX1_init_9 : decode cX1_init 9 = .ok (.multianewarray 11 2, 4) := by decide +kernel
theorem dX1_init_13 : decode cX1_init 13 = .ok (.putfield 13, 3) := by decide +kernel
theorem dX1_init_16 : decode cX1_init 16 = .ok (.return_, 1) := by decide +kernel
theorem dX1_count_0 : decode cX1_count 0 = .ok (.aload_n 0, 1) := by decide +kernel
theorem dX1_count_1 : decode cX1_count 1 = .ok (.getfield 16, 3) := by decide +kernel
theorem dX1_count_4 : decode cX1_count 4 = .ok (.ireturn, 1) := by decide +kernel
theorem dX1_forget_0 : decode cX1_forget 0 = .ok (.aload_n 0, 1) := by decide +kernel
theorem dX1_forget_1 : decode cX1_forget 1 = .ok (.iconst 0, 1) := by decide +kernel
theorem dX1_forget_2 : decode cX1_forget 2 = .ok (.putfield 16, 3) := by decide +kernel
theorem dX1_forget_5 : decode cX1_forget 5 = .ok (.return_, 1) := by decide +kernel
theorem dX1_keep_0 : decode cX1_keep 0 = .ok (.aload_n 1, 1) := by decide +kernel
theorem dX1_keep_1 : decode cX1_keep 1 = .ok (.aload_n 0, 1) := by decide +kernel
theorem dX1_keep_2 : decode cX1_keep 2 = .ok (.getfield 13, 3) := by decide +kernel
theorem dX1_keep_5 : decode cX1_keep 5 = .ok (.aload_n 0, 1) := by decide +kernel
theorem dX1_keep_6 : decode cX1_keep 6 = .ok (.getfield 20, 3) := by decide +kernel
theorem dX1_keep_9 : decode cX1_keep 9 = .ok (.bipush 7, 2) := by decide +kernel
theorem dX1_keep_11 : decode cX1_keep 11 = .ok (.iand, 1) := by decide +kernel
theorem dX1_keep_12 : decode cX1_keep 12 = .ok (.aaload, 1) := by decide +kernel
theorem dX1_keep_13 : decode cX1_keep 13 = .ok (.invokevirtual 23, 3) := by decide +kernel
theorem dX1_keep_16 : decode cX1_keep 16 = .ok (.aload_n 0, 1) := by decide +kernel
theorem dX1_keep_17 : decode cX1_keep 17 = .ok (.aload_n 0, 1) := by decide +kernel
theorem dX1_keep_18 : decode cX1_keep 18 = .ok (.getfield 20, 3) := by decide +kernel
theorem dX1_keep_21 : decode cX1_keep 21 = .ok (.iconst 1, 1) := by decide +kernel
theorem dX1_keep_22 : decode cX1_keep 22 = .ok (.iadd, 1) := by decide +kernel
theorem dX1_keep_23 : decode cX1_keep 23 = .ok (.bipush 7, 2) := by decide +kernel
theorem dX1_keep_25 : decode cX1_keep 25 = .ok (.iand, 1) := by decide +kernel
theorem dX1_keep_26 : decode cX1_keep 26 = .ok (.putfield 20, 3) := by decide +kernel
theorem dX1_keep_29 : decode cX1_keep 29 = .ok (.aload_n 0, 1) := by decide +kernel
theorem dX1_keep_30 : decode cX1_keep 30 = .ok (.aload_n 0, 1) := by decide +kernel
theorem dX1_keep_31 : decode cX1_keep 31 = .ok (.getfield 16, 3) := by decide +kernel
theorem dX1_keep_34 : decode cX1_keep 34 = .ok (.iconst 1, 1) := by decide +kernel
theorem dX1_keep_35 : decode cX1_keep 35 = .ok (.iadd, 1) := by decide +kernel
theorem dX1_keep_36 : decode cX1_keep 36 = .ok (.bipush 8, 2) := by decide +kernel
theorem dX1_keep_38 : decode cX1_keep 38 = .ok (.invokestatic 27, 3) := by decide +kernel
theorem dX1_keep_41 : decode cX1_keep 41 = .ok (.putfield 16, 3) := by decide +kernel
theorem dX1_keep_44 : decode cX1_keep 44 = .ok (.return_, 1) := by decide +kernel
theorem dX1_goBack_0 : decode cX1_goBack 0 = .ok (.aload_n 0, 1) := by decide +kernel
theorem dX1_goBack_1 : decode cX1_goBack 1 = .ok (.getfield 16, 3) := by decide +kernel
theorem dX1_goBack_4 : decode cX1_goBack 4 = .ok (.ifCond .ne 5, 3) := by decide +kernel
theorem dX1_goBack_7 : decode cX1_goBack 7 = .ok (.iconst 0, 1) := by decide +kernel
theorem dX1_goBack_8 : decode cX1_goBack 8 = .ok (.ireturn, 1) := by decide +kernel
theorem dX1_goBack_9 : decode cX1_goBack 9 = .ok (.aload_n 0, 1) := by decide +kernel
theorem dX1_goBack_10 : decode cX1_goBack 10 = .ok (.aload_n 0, 1) := by decide +kernel
theorem dX1_goBack_11 : decode cX1_goBack 11 = .ok (.getfield 20, 3) := by decide +kernel
theorem dX1_goBack_14 : decode cX1_goBack 14 = .ok (.iconst 1, 1) := by decide +kernel
theorem dX1_goBack_15 : decode cX1_goBack 15 = .ok (.isub, 1) := by decide +kernel
theorem dX1_goBack_16 : decode cX1_goBack 16 = .ok (.bipush 7, 2) := by decide +kernel
theorem dX1_goBack_18 : decode cX1_goBack 18 = .ok (.iand, 1) := by decide +kernel
theorem dX1_goBack_19 : decode cX1_goBack 19 = .ok (.putfield 20, 3) := by decide +kernel
theorem dX1_goBack_22 : decode cX1_goBack 22 = .ok (.aload_n 0, 1) := by decide +kernel
theorem dX1_goBack_23 : decode cX1_goBack 23 = .ok (.dup, 1) := by decide +kernel
theorem dX1_goBack_24 : decode cX1_goBack 24 = .ok (.getfield 16, 3) := by decide +kernel
theorem dX1_goBack_27 : decode cX1_goBack 27 = .ok (.iconst 1, 1) := by decide +kernel
theorem dX1_goBack_28 : decode cX1_goBack 28 = .ok (.isub, 1) := by decide +kernel
theorem dX1_goBack_29 : decode cX1_goBack 29 = .ok (.putfield 16, 3) := by decide +kernel
theorem dX1_goBack_32 : decode cX1_goBack 32 = .ok (.aload_n 1, 1) := by decide +kernel
theorem dX1_goBack_33 : decode cX1_goBack 33 = .ok (.aload_n 0, 1) := by decide +kernel
theorem dX1_goBack_34 : decode cX1_goBack 34 = .ok (.getfield 13, 3) := by decide +kernel
theorem dX1_goBack_37 : decode cX1_goBack 37 = .ok (.aload_n 0, 1) := by decide +kernel
theorem dX1_goBack_38 : decode cX1_goBack 38 = .ok (.getfield 20, 3) := by decide +kernel
theorem dX1_goBack_41 : decode cX1_goBack 41 = .ok (.bipush 7, 2) := by decide +kernel
theorem dX1_goBack_43 : decode cX1_goBack 43 = .ok (.iand, 1) := by decide +kernel
theorem dX1_goBack_44 : decode cX1_goBack 44 = .ok (.aaload, 1) := by decide +kernel
theorem dX1_goBack_45 : decode cX1_goBack 45 = .ok (.invokevirtual 33, 3) := by decide +kernel
theorem dX1_goBack_48 : decode cX1_goBack 48 = .ok (.iconst 1, 1) := by decide +kernel
theorem dX1_goBack_49 : decode cX1_goBack 49 = .ok (.ireturn, 1) := by decide +kernel
