theorem dX4_init_0 : decode cX4_init 0 = .ok (.aload_n 0, 1) := by decide +kernel
theorem dX4_init_1 : decode cX4_init 1 = .ok (.invokespecial 3, 3) := by decide +kernel
theorem dX4_init_4 : decode cX4_init 4 = .ok (.aload_n 0, 1) := by decide +kernel
theorem dX4_init_5 : decode cX4_init 5 = .ok (.bipush 6, 2) := by decide +kernel
theorem dX4_init_7 : decode cX4_init 7 = .ok (.bipush 7, 2) := by decide +kernel
theorem dX4_init_9 : decode cX4_init 9 = .ok (.multianewarray 11 2, 4) := by decide +kernel
theorem dX4_init_13 : decode cX4_init 13 = .ok (.putfield 13, 3) := by decide +kernel
theorem dX4_init_16 : decode cX4_init 16 = .ok (.aload_n 0, 1) := by decide +kernel
theorem dX4_init_17 : decode cX4_init 17 = .ok (.bipush 7, 2) := by decide +kernel
theorem dX4_init_19 : decode cX4_init 19 = .ok (.bipush 7, 2) := by decide +kernel
theorem dX4_init_21 : decode cX4_init 21 = .ok (.multianewarray 11 2, 4) := by decide +kernel
theorem dX4_init_25 : decode cX4_init 25 = .ok (.putfield 16, 3) := by decide +kernel
theorem dX4_init_28 : decode cX4_init 28 = .ok (.aload_n 0, 1) := by decide +kernel
theorem dX4_init_29 : decode cX4_init 29 = .ok (.iconst 1, 1) := by decide +kernel
theorem dX4_init_30 : decode cX4_init 30 = .ok (.putfield 19, 3) := by decide +kernel
theorem dX4_init_33 : decode cX4_init 33 = .ok (.return_, 1) := by decide +kernel
theorem dX4_start_0 : decode cX4_start 0 = .ok (.aload_n 0, 1) := by decide +kernel
theorem dX4_start_1 : decode cX4_start 1 = .ok (.iconst 1, 1) := by decide +kernel
theorem dX4_start_2 : decode cX4_start 2 = .ok (.iload_n 1, 1) := by decide +kernel
theorem dX4_start_3 : decode cX4_start 3 = .ok (.invokestatic 23, 3) := by decide +kernel
theorem dX4_start_6 : decode cX4_start 6 = .ok (.putfield 19, 3) := by decide +kernel
theorem dX4_start_9 : decode cX4_start 9 = .ok (.aload_n 0, 1) := by decide +kernel
theorem dX4_start_10 : decode cX4_start 10 = .ok (.iconst 0, 1) := by decide +kernel
theorem dX4_start_11 : decode cX4_start 11 = .ok (.iload_n 2, 1) := by decide +kernel
theorem dX4_start_12 : decode cX4_start 12 = .ok (.bipush 7, 2) := by decide +kernel
theorem dX4_start_14 : decode cX4_start 14 = .ok (.invokestatic 29, 3) := by decide +kernel
theorem dX4_start_17 : decode cX4_start 17 = .ok (.invokestatic 23, 3) := by decide +kernel
theorem dX4_start_20 : decode cX4_start 20 = .ok (.putfield 32, 3) := by decide +kernel
theorem dX4_start_23 : decode cX4_start 23 = .ok (.aload_n 0, 1) := by decide +kernel
theorem dX4_start_24 : decode cX4_start 24 = .ok (.iconst 0, 1) := by decide +kernel
theorem dX4_start_25 : decode cX4_start 25 = .ok (.putfield 35, 3) := by decide +kernel
theorem dX4_start_28 : decode cX4_start 28 = .ok (.return_, 1) := by decide +kernel
theorem dX4_addRow_0 : decode cX4_addRow 0 = .ok (.aload_n 0, 1) := by decide +kernel
theorem dX4_addRow_1 : decode cX4_addRow 1 = .ok (.getfield 35, 3) := by decide +kernel
theorem dX4_addRow_4 : decode cX4_addRow 4 = .ok (.bipush 6, 2) := by decide +kernel
theorem dX4_addRow_6 : decode cX4_addRow 6 = .ok (.if_icmp .ge 26, 3) := by decide +kernel
theorem dX4_addRow_9 : decode cX4_addRow 9 = .ok (.aload_n 0, 1) := by decide +kernel
theorem dX4_addRow_10 : decode cX4_addRow 10 = .ok (.getfield 13, 3) := by decide +kernel
theorem dX4_addRow_13 : decode cX4_addRow 13 = .ok (.aload_n 0, 1) := by decide +kernel
theorem dX4_addRow_14 : decode cX4_addRow 14 = .ok (.getfield 35, 3) := by decide +kernel
theorem dX4_addRow_17 : decode cX4_addRow 17 = .ok (.aaload, 1) := by decide +kernel
theorem dX4_addRow_18 : decode cX4_addRow 18 = .ok (.iconst 0, 1) := by decide +kernel
theorem dX4_addRow_19 : decode cX4_addRow 19 = .ok (.invokestatic 38, 3) := by decide +kernel
theorem dX4_addRow_22 : decode cX4_addRow 22 = .ok (.aload_n 0, 1) := by decide +kernel
theorem dX4_addRow_23 : decode cX4_addRow 23 = .ok (.dup, 1) := by decide +kernel
theorem dX4_addRow_24 : decode cX4_addRow 24 = .ok (.getfield 35, 3) := by decide +kernel
theorem dX4_addRow_27 : decode cX4_addRow 27 = .ok (.iconst 1, 1) := by decide +kernel
theorem dX4_addRow_28 : decode cX4_addRow 28 = .ok (.iadd, 1) := by decide +kernel
theorem dX4_addRow_29 : decode cX4_addRow 29 = .ok (.putfield 35, 3) := by decide +kernel
theorem dX4_addRow_32 : decode cX4_addRow 32 = .ok (.return_, 1) := by decide +kernel
theorem dX4_put_0 : decode cX4_put 0 = .ok (.aload_n 0, 1) := by decide +kernel
theorem dX4_put_1 : decode cX4_put 1 = .ok (.getfield 35, 3) := by decide +kernel
theorem dX4_put_4 : decode cX4_put 4 = .ok (.ifCond .le 58, 3) := by decide +kernel
theorem dX4_put_7 : decode cX4_put 7 = .ok (.aload_n 0, 1) := by decide +kernel
theorem dX4_put_8 : decode cX4_put 8 = .ok (.getfield 35, 3) := by decide +kernel
theorem dX4_put_11 : decode cX4_put 11 = .ok (.bipush 6, 2) := by decide +kernel
theorem dX4_put_13 : decode cX4_put 13 = .ok (.if_icmp .gt 49, 3) := by decide +kernel
theorem dX4_put_16 : decode cX4_put 16 = .ok (.iload_n 1, 1) := by decide +kernel
theorem dX4_put_17 : decode cX4_put 17 = .ok (.ifCond .lt 45, 3) := by decide +kernel
theorem dX4_put_20 : decode cX4_put 20 = .ok (.iload_n 1, 1) := by decide +kernel
theorem dX4_put_21 : decode cX4_put 21 = .ok (.aload_n 0, 1) := by decide +kernel
theorem dX4_put_22 : decode cX4_put 22 = .ok (.getfield 32, 3) := by decide +kernel
theorem dX4_put_25 : decode cX4_put 25 = .ok (.if_icmp .ge 37, 3) := by decide +kernel
theorem dX4_put_28 : decode cX4_put 28 = .ok (.iload_n 2, 1) := by decide +kernel
theorem dX4_put_29 : decode cX4_put 29 = .ok (.aload_n 0, 1) := by decide +kernel
theorem dX4_put_30 : decode cX4_put 30 = .ok (.getfield 19, 3) := by decide +kernel
theorem dX4_put_33 : decode cX4_put 33 = .ok (.irem, 1) := by decide +kernel
theorem dX4_put_34 : decode cX4_put 34 = .ok (.istore_n 3, 1) := by decide +kernel
theorem dX4_put_35 : decode cX4_put 35 = .ok (.aload_n 0, 1) := by decide +kernel
theorem dX4_put_36 : decode cX4_put 36 = .ok (.getfield 13, 3) := by decide +kernel
theorem dX4_put_39 : decode cX4_put 39 = .ok (.aload_n 0, 1) := by decide +kernel
theorem dX4_put_40 : decode cX4_put 40 = .ok (.getfield 35, 3) := by decide +kernel
theorem dX4_put_43 : decode cX4_put 43 = .ok (.iconst 1, 1) := by decide +kernel
theorem dX4_put_44 : decode cX4_put 44 = .ok (.isub, 1) := by decide +kernel
theorem dX4_put_45 : decode cX4_put 45 = .ok (.aaload, 1) := by decide +kernel
theorem dX4_put_46 : decode cX4_put 46 = .ok (.iload_n 1, 1) := by decide +kernel
theorem dX4_put_47 : decode cX4_put 47 = .ok (.iload_n 3, 1) := by decide +kernel
theorem dX4_put_48 : decode cX4_put 48 = .ok (.ifCond .ge 12, 3) := by decide +kernel
theorem dX4_put_51 : decode cX4_put 51 = .ok (.iload_n 3, 1) := by decide +kernel
theorem dX4_put_52 : decode cX4_put 52 = .ok (.aload_n 0, 1) := by decide +kernel
theorem dX4_put_53 : decode cX4_put 53 = .ok (.getfield 19, 3) := by decide +kernel
theorem dX4_put_56 : decode cX4_put 56 = .ok (.iadd, 1) := by decide +kernel
theorem dX4_put_57 : decode cX4_put 57 = .ok (.goto 4, 3) := by decide +kernel
theorem dX4_put_60 : decode cX4_put 60 = .ok (.iload_n 3, 1) := by decide +kernel
theorem dX4_put_61 : decode cX4_put 61 = .ok (.iastore, 1) := by decide +kernel
theorem dX4_put_62 : decode cX4_put 62 = .ok (.return_, 1) := by decide +kernel
theorem dX4_shapedAt_0 : decode cX4_shapedAt 0 = .ok (.iload_n 1, 1) := by decide +kernel
theorem dX4_shapedAt_1 : decode cX4_shapedAt 1 = .ok (.ifCond .lt 27, 3) := by decide +kernel
theorem dX4_shapedAt_4 : decode cX4_shapedAt 4 = .ok (.iload_n 1, 1) := by decide +kernel
theorem dX4_shapedAt_5 : decode cX4_shapedAt 5 = .ok (.aload_n 0, 1) := by decide +kernel
theorem dX4_shapedAt_6 : decode cX4_shapedAt 6 = .ok (.getfield 32, 3) := by decide +kernel
theorem dX4_shapedAt_9 : decode cX4_shapedAt 9 = .ok (.if_icmp .ge 19, 3) := by decide +kernel
theorem dX4_shapedAt_12 : decode cX4_shapedAt 12 = .ok (.iload_n 2, 1) := by decide +kernel
theorem dX4_shapedAt_13 : decode cX4_shapedAt 13 = .ok (.ifCond .lt 15, 3) := by decide +kernel
theorem dX4_shapedAt_16 : decode cX4_shapedAt 16 = .ok (.iload_n 2, 1) := by decide +kernel
theorem dX4_shapedAt_17 : decode cX4_shapedAt 17 = .ok (.aload_n 0, 1) := by decide +kernel
theorem dX4_shapedAt_18 : decode cX4_shapedAt 18 = .ok (.getfield 32, 3) := by decide +kernel
theorem dX4_shapedAt_21 : decode cX4_shapedAt 21 = .ok (.if_icmp .ge 7, 3) := by decide +kernel
theorem dX4_shapedAt_24 : decode cX4_shapedAt 24 = .ok (.iconst 1, 1) := by decide +kernel
theorem dX4_shapedAt_25 : decode cX4_shapedAt 25 = .ok (.goto 4, 3) := by decide +kernel
theorem dX4_shapedAt_28 : decode cX4_shapedAt 28 = .ok (.iconst 0, 1) := by decide +kernel
theorem dX4_shapedAt_29 : decode cX4_shapedAt 29 = .ok (.istore_n 3, 1) := by decide +kernel
theorem dX4_shapedAt_30 : decode cX4_shapedAt 30 = .ok (.iload_n 3, 1) := by decide +kernel
theorem dX4_shapedAt_31 : decode cX4_shapedAt 31 = .ok (.ifCond .eq 14, 3) := by decide +kernel
theorem dX4_shapedAt_34 : decode cX4_shapedAt 34 = .ok (.aload_n 0, 1) := by decide +kernel
theorem dX4_shapedAt_35 : decode cX4_shapedAt 35 = .ok (.getfield 16, 3) := by decide +kernel
theorem dX4_shapedAt_38 : decode cX4_shapedAt 38 = .ok (.iload_n 1, 1) := by decide +kernel
theorem dX4_shapedAt_39 : decode cX4_shapedAt 39 = .ok (.aaload, 1) := by decide +kernel
theorem dX4_shapedAt_40 : decode cX4_shapedAt 40 = .ok (.iload_n 2, 1) := by decide +kernel
theorem dX4_shapedAt_41 : decode cX4_shapedAt 41 = .ok (.iaload, 1) := by decide +kernel
theorem dX4_shapedAt_42 : decode cX4_shapedAt 42 = .ok (.goto 4, 3) := by decide +kernel
theorem dX4_shapedAt_45 : decode cX4_shapedAt 45 = .ok (.iconst 0, 1) := by decide +kernel
theorem dX4_shapedAt_46 : decode cX4_shapedAt 46 = .ok (.ireturn, 1) := by decide +kernel
theorem dX4_shape_0 : decode cX4_shape 0 = .ok (.iconst 0, 1) := by decide +kernel
theorem dX4_shape_1 : decode cX4_shape 1 = .ok (.istore_n 1, 1) := by decide +kernel
theorem dX4_shape_2 : decode cX4_shape 2 = .ok (.iload_n 1, 1) := by decide +kernel
theorem dX4_shape_3 : decode cX4_shape 3 = .ok (.aload_n 0, 1) := by decide +kernel
theorem dX4_shape_4 : decode cX4_shape 4 = .ok (.getfield 32, 3) := by decide +kernel
theorem dX4_shape_7 : decode cX4_shape 7 = .ok (.if_icmp .ge 66, 3) := by decide +kernel
theorem dX4_shape_10 : decode cX4_shape 10 = .ok (.aload_n 0, 1) := by decide +kernel
theorem dX4_shape_11 : decode cX4_shape 11 = .ok (.getfield 16, 3) := by decide +kernel
theorem dX4_shape_14 : decode cX4_shape 14 = .ok (.iload_n 1, 1) := by decide +kernel
theorem dX4_shape_15 : decode cX4_shape 15 = .ok (.aaload, 1) := by decide +kernel
theorem dX4_shape_16 : decode cX4_shape 16 = .ok (.astore_n 2, 1) := by decide +kernel
theorem dX4_shape_17 : decode cX4_shape 17 = .ok (.aload_n 2, 1) := by decide +kernel
theorem dX4_shape_18 : decode cX4_shape 18 = .ok (.iconst 0, 1) := by decide +kernel
theorem dX4_shape_19 : decode cX4_shape 19 = .ok (.invokestatic 38, 3) := by decide +kernel
theorem dX4_shape_22 : decode cX4_shape 22 = .ok (.aload_n 2, 1) := by decide +kernel
theorem dX4_shape_23 : decode cX4_shape 23 = .ok (.iload_n 1, 1) := by decide +kernel
theorem dX4_shape_24 : decode cX4_shape 24 = .ok (.aload_n 0, 1) := by decide +kernel
theorem dX4_shape_25 : decode cX4_shape 25 = .ok (.getfield 19, 3) := by decide +kernel
theorem dX4_shape_28 : decode cX4_shape 28 = .ok (.iastore, 1) := by decide +kernel
theorem dX4_shape_29 : decode cX4_shape 29 = .ok (.iconst 0, 1) := by decide +kernel
theorem dX4_shape_30 : decode cX4_shape 30 = .ok (.istore_n 3, 1) := by decide +kernel
theorem dX4_shape_31 : decode cX4_shape 31 = .ok (.iload_n 3, 1) := by decide +kernel
theorem dX4_shape_32 : decode cX4_shape 32 = .ok (.aload_n 0, 1) := by decide +kernel
theorem dX4_shape_33 : decode cX4_shape 33 = .ok (.getfield 35, 3) := by decide +kernel
theorem dX4_shape_36 : decode cX4_shape 36 = .ok (.if_icmp .ge 21, 3) := by decide +kernel
theorem dX4_shape_39 : decode cX4_shape 39 = .ok (.aload_n 0, 1) := by decide +kernel
theorem dX4_shape_40 : decode cX4_shape 40 = .ok (.aload_n 2, 1) := by decide +kernel
theorem dX4_shape_41 : decode cX4_shape 41 = .ok (.aload_n 0, 1) := by decide +kernel
theorem dX4_shape_42 : decode cX4_shape 42 = .ok (.getfield 13, 3) := by decide +kernel
theorem dX4_shape_45 : decode cX4_shape 45 = .ok (.iload_n 3, 1) := by decide +kernel
theorem dX4_shape_46 : decode cX4_shape 46 = .ok (.aaload, 1) := by decide +kernel
theorem dX4_shape_47 : decode cX4_shape 47 = .ok (.iload_n 1, 1) := by decide +kernel
theorem dX4_shape_48 : decode cX4_shape 48 = .ok (.invokevirtual 44, 3) := by decide +kernel
theorem dX4_shape_51 : decode cX4_shape 51 = .ok (.iinc 3 1, 3) := by decide +kernel
theorem dX4_shape_54 : decode cX4_shape 54 = .ok (.goto (-23), 3) := by decide +kernel
theorem dX4_shape_57 : decode cX4_shape 57 = .ok (.aload_n 2, 1) := by decide +kernel
theorem dX4_shape_58 : decode cX4_shape 58 = .ok (.iload_n 1, 1) := by decide +kernel
theorem dX4_shape_59 : decode cX4_shape 59 = .ok (.dup2, 1) := by decide +kernel
theorem dX4_shape_60 : decode cX4_shape 60 = .ok (.iaload, 1) := by decide +kernel
theorem dX4_shape_61 : decode cX4_shape 61 = .ok (.aload_n 0, 1) := by decide +kernel
theorem dX4_shape_62 : decode cX4_shape 62 = .ok (.getfield 19, 3) := by decide +kernel
theorem dX4_shape_65 : decode cX4_shape 65 = .ok (.irem, 1) := by decide +kernel
theorem dX4_shape_66 : decode cX4_shape 66 = .ok (.iastore, 1) := by decide +kernel
theorem dX4_shape_67 : decode cX4_shape 67 = .ok (.iinc 1 1, 3) := by decide +kernel
theorem dX4_shape_70 : decode cX4_shape 70 = .ok (.goto (-68), 3) := by decide +kernel
theorem dX4_shape_73 : decode cX4_shape 73 = .ok (.iconst 0, 1) := by decide +kernel
theorem dX4_shape_74 : decode cX4_shape 74 = .ok (.istore_n 1, 1) := by decide +kernel
theorem dX4_shape_75 : decode cX4_shape 75 = .ok (.iload_n 1, 1) := by decide +kernel
theorem dX4_shape_76 : decode cX4_shape 76 = .ok (.aload_n 0, 1) := by decide +kernel
theorem dX4_shape_77 : decode cX4_shape 77 = .ok (.getfield 32, 3) := by decide +kernel
theorem dX4_shape_80 : decode cX4_shape 80 = .ok (.if_icmp .ge 14, 3) := by decide +kernel
theorem dX4_shape_83 : decode cX4_shape 83 = .ok (.aload_n 0, 1) := by decide +kernel
theorem dX4_shape_84 : decode cX4_shape 84 = .ok (.iload_n 1, 1) := by decide +kernel
theorem dX4_shape_85 : decode cX4_shape 85 = .ok (.invokevirtual 48, 3) := by decide +kernel
theorem dX4_shape_88 : decode cX4_shape 88 = .ok (.iinc 1 1, 3) := by decide +kernel
theorem dX4_shape_91 : decode cX4_shape 91 = .ok (.goto (-16), 3) := by decide +kernel
theorem dX4_shape_94 : decode cX4_shape 94 = .ok (.return_, 1) := by decide +kernel
theorem dX4_sizeBehind_0 : decode cX4_sizeBehind 0 = .ok (.iconst 1, 1) := by decide +kernel
theorem dX4_sizeBehind_1 : decode cX4_sizeBehind 1 = .ok (.istore_n 2, 1) := by decide +kernel
theorem dX4_sizeBehind_2 : decode cX4_sizeBehind 2 = .ok (.iconst 0, 1) := by decide +kernel
theorem dX4_sizeBehind_3 : decode cX4_sizeBehind 3 = .ok (.iload_n 1, 1) := by decide +kernel
theorem dX4_sizeBehind_4 : decode cX4_sizeBehind 4 = .ok (.invokestatic 23, 3) := by decide +kernel
theorem dX4_sizeBehind_7 : decode cX4_sizeBehind 7 = .ok (.istore_n 3, 1) := by decide +kernel
theorem dX4_sizeBehind_8 : decode cX4_sizeBehind 8 = .ok (.iload_n 3, 1) := by decide +kernel
theorem dX4_sizeBehind_9 : decode cX4_sizeBehind 9 = .ok (.aload_n 0, 1) := by decide +kernel
theorem dX4_sizeBehind_10 : decode cX4_sizeBehind 10 = .ok (.getfield 32, 3) := by decide +kernel
theorem dX4_sizeBehind_13 : decode cX4_sizeBehind 13 = .ok (.if_icmp .ge 38, 3) := by decide +kernel
theorem dX4_sizeBehind_16 : decode cX4_sizeBehind 16 = .ok (.aload_n 0, 1) := by decide +kernel
theorem dX4_sizeBehind_17 : decode cX4_sizeBehind 17 = .ok (.getfield 16, 3) := by decide +kernel
theorem dX4_sizeBehind_20 : decode cX4_sizeBehind 20 = .ok (.iload_n 3, 1) := by decide +kernel
theorem dX4_sizeBehind_21 : decode cX4_sizeBehind 21 = .ok (.aaload, 1) := by decide +kernel
theorem dX4_sizeBehind_22 : decode cX4_sizeBehind 22 = .ok (.iload_n 3, 1) := by decide +kernel
theorem dX4_sizeBehind_23 : decode cX4_sizeBehind 23 = .ok (.iaload, 1) := by decide +kernel
theorem dX4_sizeBehind_24 : decode cX4_sizeBehind 24 = .ok (.istore 4, 2) := by decide +kernel
theorem dX4_sizeBehind_26 : decode cX4_sizeBehind 26 = .ok (.iload_n 2, 1) := by decide +kernel
theorem dX4_sizeBehind_27 : decode cX4_sizeBehind 27 = .ok (.iload 4, 2) := by decide +kernel
theorem dX4_sizeBehind_29 : decode cX4_sizeBehind 29 = .ok (.ifCond .le 13, 3) := by decide +kernel
theorem dX4_sizeBehind_32 : decode cX4_sizeBehind 32 = .ok (.aload_n 0, 1) := by decide +kernel
theorem dX4_sizeBehind_33 : decode cX4_sizeBehind 33 = .ok (.getfield 19, 3) := by decide +kernel
theorem dX4_sizeBehind_36 : decode cX4_sizeBehind 36 = .ok (.iload 4, 2) := by decide +kernel
theorem dX4_sizeBehind_38 : decode cX4_sizeBehind 38 = .ok (.idiv, 1) := by decide +kernel
theorem dX4_sizeBehind_39 : decode cX4_sizeBehind 39 = .ok (.goto 4, 3) := by decide +kernel
theorem dX4_sizeBehind_42 : decode cX4_sizeBehind 42 = .ok (.iconst 1, 1) := by decide +kernel
theorem dX4_sizeBehind_43 : decode cX4_sizeBehind 43 = .ok (.imul, 1) := by decide +kernel
theorem dX4_sizeBehind_44 : decode cX4_sizeBehind 44 = .ok (.istore_n 2, 1) := by decide +kernel
theorem dX4_sizeBehind_45 : decode cX4_sizeBehind 45 = .ok (.iinc 3 1, 3) := by decide +kernel
theorem dX4_sizeBehind_48 : decode cX4_sizeBehind 48 = .ok (.goto (-40), 3) := by decide +kernel
theorem dX4_sizeBehind_51 : decode cX4_sizeBehind 51 = .ok (.iload_n 2, 1) := by decide +kernel
theorem dX4_sizeBehind_52 : decode cX4_sizeBehind 52 = .ok (.ireturn, 1) := by decide +kernel
theorem dX4_fold_0 : decode cX4_fold 0 = .ok (.iconst 0, 1) := by decide +kernel
theorem dX4_fold_1 : decode cX4_fold 1 = .ok (.istore 4, 2) := by decide +kernel
theorem dX4_fold_3 : decode cX4_fold 3 = .ok (.iload 4, 2) := by decide +kernel
theorem dX4_fold_5 : decode cX4_fold 5 = .ok (.bipush 40, 2) := by decide +kernel
theorem dX4_fold_7 : decode cX4_fold 7 = .ok (.if_icmp .ge 85, 3) := by decide +kernel
theorem dX4_fold_10 : decode cX4_fold 10 = .ok (.aload_n 2, 1) := by decide +kernel
theorem dX4_fold_11 : decode cX4_fold 11 = .ok (.iload_n 3, 1) := by decide +kernel
theorem dX4_fold_12 : decode cX4_fold 12 = .ok (.iaload, 1) := by decide +kernel
theorem dX4_fold_13 : decode cX4_fold 13 = .ok (.ifCond .le 79, 3) := by decide +kernel
theorem dX4_fold_16 : decode cX4_fold 16 = .ok (.aload_n 0, 1) := by decide +kernel
theorem dX4_fold_17 : decode cX4_fold 17 = .ok (.getfield 19, 3) := by decide +kernel
theorem dX4_fold_20 : decode cX4_fold 20 = .ok (.aload_n 1, 1) := by decide +kernel
theorem dX4_fold_21 : decode cX4_fold 21 = .ok (.iload_n 3, 1) := by decide +kernel
theorem dX4_fold_22 : decode cX4_fold 22 = .ok (.iaload, 1) := by decide +kernel
theorem dX4_fold_23 : decode cX4_fold 23 = .ok (.aload_n 2, 1) := by decide +kernel
theorem dX4_fold_24 : decode cX4_fold 24 = .ok (.iload_n 3, 1) := by decide +kernel
theorem dX4_fold_25 : decode cX4_fold 25 = .ok (.iaload, 1) := by decide +kernel
theorem dX4_fold_26 : decode cX4_fold 26 = .ok (.idiv, 1) := by decide +kernel
theorem dX4_fold_27 : decode cX4_fold 27 = .ok (.aload_n 0, 1) := by decide +kernel
theorem dX4_fold_28 : decode cX4_fold 28 = .ok (.getfield 19, 3) := by decide +kernel
theorem dX4_fold_31 : decode cX4_fold 31 = .ok (.irem, 1) := by decide +kernel
theorem dX4_fold_32 : decode cX4_fold 32 = .ok (.isub, 1) := by decide +kernel
theorem dX4_fold_33 : decode cX4_fold 33 = .ok (.istore 5, 2) := by decide +kernel
theorem dX4_fold_35 : decode cX4_fold 35 = .ok (.iload_n 3, 1) := by decide +kernel
theorem dX4_fold_36 : decode cX4_fold 36 = .ok (.istore 6, 2) := by decide +kernel
theorem dX4_fold_38 : decode cX4_fold 38 = .ok (.iload 6, 2) := by decide +kernel
theorem dX4_fold_40 : decode cX4_fold 40 = .ok (.aload_n 0, 1) := by decide +kernel
theorem dX4_fold_41 : decode cX4_fold 41 = .ok (.getfield 32, 3) := by decide +kernel
theorem dX4_fold_44 : decode cX4_fold 44 = .ok (.if_icmp .ge 42, 3) := by decide +kernel
theorem dX4_fold_47 : decode cX4_fold 47 = .ok (.aload_n 1, 1) := by decide +kernel
theorem dX4_fold_48 : decode cX4_fold 48 = .ok (.iload 6, 2) := by decide +kernel
theorem dX4_fold_50 : decode cX4_fold 50 = .ok (.iaload, 1) := by decide +kernel
theorem dX4_fold_51 : decode cX4_fold 51 = .ok (.iload 5, 2) := by decide +kernel
theorem dX4_fold_53 : decode cX4_fold 53 = .ok (.aload_n 2, 1) := by decide +kernel
theorem dX4_fold_54 : decode cX4_fold 54 = .ok (.iload 6, 2) := by decide +kernel
theorem dX4_fold_56 : decode cX4_fold 56 = .ok (.iaload, 1) := by decide +kernel
theorem dX4_fold_57 : decode cX4_fold 57 = .ok (.imul, 1) := by decide +kernel
theorem dX4_fold_58 : decode cX4_fold 58 = .ok (.iadd, 1) := by decide +kernel
theorem dX4_fold_59 : decode cX4_fold 59 = .ok (.aload_n 0, 1) := by decide +kernel
theorem dX4_fold_60 : decode cX4_fold 60 = .ok (.getfield 19, 3) := by decide +kernel
theorem dX4_fold_63 : decode cX4_fold 63 = .ok (.irem, 1) := by decide +kernel
theorem dX4_fold_64 : decode cX4_fold 64 = .ok (.istore 7, 2) := by decide +kernel
theorem dX4_fold_66 : decode cX4_fold 66 = .ok (.aload_n 1, 1) := by decide +kernel
theorem dX4_fold_67 : decode cX4_fold 67 = .ok (.iload 6, 2) := by decide +kernel
theorem dX4_fold_69 : decode cX4_fold 69 = .ok (.aload_n 2, 1) := by decide +kernel
theorem dX4_fold_70 : decode cX4_fold 70 = .ok (.iload 6, 2) := by decide +kernel
theorem dX4_fold_72 : decode cX4_fold 72 = .ok (.iaload, 1) := by decide +kernel
theorem dX4_fold_73 : decode cX4_fold 73 = .ok (.iastore, 1) := by decide +kernel
theorem dX4_fold_74 : decode cX4_fold 74 = .ok (.aload_n 2, 1) := by decide +kernel
theorem dX4_fold_75 : decode cX4_fold 75 = .ok (.iload 6, 2) := by decide +kernel
theorem dX4_fold_77 : decode cX4_fold 77 = .ok (.iload 7, 2) := by decide +kernel
theorem dX4_fold_79 : decode cX4_fold 79 = .ok (.iastore, 1) := by decide +kernel
theorem dX4_fold_80 : decode cX4_fold 80 = .ok (.iinc 6 1, 3) := by decide +kernel
theorem dX4_fold_83 : decode cX4_fold 83 = .ok (.goto (-45), 3) := by decide +kernel
theorem dX4_fold_86 : decode cX4_fold 86 = .ok (.iinc 4 1, 3) := by decide +kernel
theorem dX4_fold_89 : decode cX4_fold 89 = .ok (.goto (-86), 3) := by decide +kernel
theorem dX4_fold_92 : decode cX4_fold 92 = .ok (.return_, 1) := by decide +kernel
theorem dX4_tidy_0 : decode cX4_tidy 0 = .ok (.aload_n 0, 1) := by decide +kernel
theorem dX4_tidy_1 : decode cX4_tidy 1 = .ok (.getfield 16, 3) := by decide +kernel
theorem dX4_tidy_4 : decode cX4_tidy 4 = .ok (.iload_n 1, 1) := by decide +kernel
theorem dX4_tidy_5 : decode cX4_tidy 5 = .ok (.aaload, 1) := by decide +kernel
theorem dX4_tidy_6 : decode cX4_tidy 6 = .ok (.astore_n 2, 1) := by decide +kernel
theorem dX4_tidy_7 : decode cX4_tidy 7 = .ok (.iload_n 1, 1) := by decide +kernel
theorem dX4_tidy_8 : decode cX4_tidy 8 = .ok (.iconst 1, 1) := by decide +kernel
theorem dX4_tidy_9 : decode cX4_tidy 9 = .ok (.iadd, 1) := by decide +kernel
theorem dX4_tidy_10 : decode cX4_tidy 10 = .ok (.istore_n 3, 1) := by decide +kernel
theorem dX4_tidy_11 : decode cX4_tidy 11 = .ok (.iload_n 3, 1) := by decide +kernel
theorem dX4_tidy_12 : decode cX4_tidy 12 = .ok (.aload_n 0, 1) := by decide +kernel
theorem dX4_tidy_13 : decode cX4_tidy 13 = .ok (.getfield 32, 3) := by decide +kernel
theorem dX4_tidy_16 : decode cX4_tidy 16 = .ok (.if_icmp .ge 89, 3) := by decide +kernel
theorem dX4_tidy_19 : decode cX4_tidy 19 = .ok (.aload_n 0, 1) := by decide +kernel
theorem dX4_tidy_20 : decode cX4_tidy 20 = .ok (.getfield 16, 3) := by decide +kernel
theorem dX4_tidy_23 : decode cX4_tidy 23 = .ok (.iload_n 3, 1) := by decide +kernel
theorem dX4_tidy_24 : decode cX4_tidy 24 = .ok (.aaload, 1) := by decide +kernel
theorem dX4_tidy_25 : decode cX4_tidy 25 = .ok (.iload_n 3, 1) := by decide +kernel
theorem dX4_tidy_26 : decode cX4_tidy 26 = .ok (.iaload, 1) := by decide +kernel
theorem dX4_tidy_27 : decode cX4_tidy 27 = .ok (.istore 4, 2) := by decide +kernel
theorem dX4_tidy_29 : decode cX4_tidy 29 = .ok (.iload 4, 2) := by decide +kernel
theorem dX4_tidy_31 : decode cX4_tidy 31 = .ok (.ifCond .le 68, 3) := by decide +kernel
theorem dX4_tidy_34 : decode cX4_tidy 34 = .ok (.aload_n 2, 1) := by decide +kernel
theorem dX4_tidy_35 : decode cX4_tidy 35 = .ok (.iload_n 3, 1) := by decide +kernel
theorem dX4_tidy_36 : decode cX4_tidy 36 = .ok (.iaload, 1) := by decide +kernel
theorem dX4_tidy_37 : decode cX4_tidy 37 = .ok (.iload 4, 2) := by decide +kernel
theorem dX4_tidy_39 : decode cX4_tidy 39 = .ok (.if_icmp .lt 60, 3) := by decide +kernel
theorem dX4_tidy_42 : decode cX4_tidy 42 = .ok (.aload_n 0, 1) := by decide +kernel
theorem dX4_tidy_43 : decode cX4_tidy 43 = .ok (.getfield 19, 3) := by decide +kernel
theorem dX4_tidy_46 : decode cX4_tidy 46 = .ok (.aload_n 2, 1) := by decide +kernel
theorem dX4_tidy_47 : decode cX4_tidy 47 = .ok (.iload_n 3, 1) := by decide +kernel
theorem dX4_tidy_48 : decode cX4_tidy 48 = .ok (.iaload, 1) := by decide +kernel
theorem dX4_tidy_49 : decode cX4_tidy 49 = .ok (.iload 4, 2) := by decide +kernel
theorem dX4_tidy_51 : decode cX4_tidy 51 = .ok (.idiv, 1) := by decide +kernel
theorem dX4_tidy_52 : decode cX4_tidy 52 = .ok (.isub, 1) := by decide +kernel
theorem dX4_tidy_53 : decode cX4_tidy 53 = .ok (.istore 5, 2) := by decide +kernel
theorem dX4_tidy_55 : decode cX4_tidy 55 = .ok (.iload_n 3, 1) := by decide +kernel
theorem dX4_tidy_56 : decode cX4_tidy 56 = .ok (.istore 6, 2) := by decide +kernel
theorem dX4_tidy_58 : decode cX4_tidy 58 = .ok (.iload 6, 2) := by decide +kernel
theorem dX4_tidy_60 : decode cX4_tidy 60 = .ok (.aload_n 0, 1) := by decide +kernel
theorem dX4_tidy_61 : decode cX4_tidy 61 = .ok (.getfield 32, 3) := by decide +kernel
theorem dX4_tidy_64 : decode cX4_tidy 64 = .ok (.if_icmp .ge 35, 3) := by decide +kernel
theorem dX4_tidy_67 : decode cX4_tidy 67 = .ok (.aload_n 2, 1) := by decide +kernel
theorem dX4_tidy_68 : decode cX4_tidy 68 = .ok (.iload 6, 2) := by decide +kernel
theorem dX4_tidy_70 : decode cX4_tidy 70 = .ok (.aload_n 2, 1) := by decide +kernel
theorem dX4_tidy_71 : decode cX4_tidy 71 = .ok (.iload 6, 2) := by decide +kernel
theorem dX4_tidy_73 : decode cX4_tidy 73 = .ok (.iaload, 1) := by decide +kernel
theorem dX4_tidy_74 : decode cX4_tidy 74 = .ok (.iload 5, 2) := by decide +kernel
theorem dX4_tidy_76 : decode cX4_tidy 76 = .ok (.aload_n 0, 1) := by decide +kernel
theorem dX4_tidy_77 : decode cX4_tidy 77 = .ok (.getfield 16, 3) := by decide +kernel
theorem dX4_tidy_80 : decode cX4_tidy 80 = .ok (.iload_n 3, 1) := by decide +kernel
theorem dX4_tidy_81 : decode cX4_tidy 81 = .ok (.aaload, 1) := by decide +kernel
theorem dX4_tidy_82 : decode cX4_tidy 82 = .ok (.iload 6, 2) := by decide +kernel
theorem dX4_tidy_84 : decode cX4_tidy 84 = .ok (.iaload, 1) := by decide +kernel
theorem dX4_tidy_85 : decode cX4_tidy 85 = .ok (.imul, 1) := by decide +kernel
theorem dX4_tidy_86 : decode cX4_tidy 86 = .ok (.iadd, 1) := by decide +kernel
theorem dX4_tidy_87 : decode cX4_tidy 87 = .ok (.aload_n 0, 1) := by decide +kernel
theorem dX4_tidy_88 : decode cX4_tidy 88 = .ok (.getfield 19, 3) := by decide +kernel
theorem dX4_tidy_91 : decode cX4_tidy 91 = .ok (.irem, 1) := by decide +kernel
theorem dX4_tidy_92 : decode cX4_tidy 92 = .ok (.iastore, 1) := by decide +kernel
theorem dX4_tidy_93 : decode cX4_tidy 93 = .ok (.iinc 6 1, 3) := by decide +kernel
theorem dX4_tidy_96 : decode cX4_tidy 96 = .ok (.goto (-38), 3) := by decide +kernel
theorem dX4_tidy_99 : decode cX4_tidy 99 = .ok (.iinc 3 1, 3) := by decide +kernel
theorem dX4_tidy_102 : decode cX4_tidy 102 = .ok (.goto (-91), 3) := by decide +kernel
theorem dX4_tidy_105 : decode cX4_tidy 105 = .ok (.return_, 1) := by decide +kernel
