theorem dX6_toldBack_26 : decode cX6_toldBack 26 = .ok (.iadd, 1) := by decide +kernel
theorem dX6_toldBack_27 : decode cX6_toldBack 27 = .ok (.ireturn, 1) := by decide +kernel
theorem dX6_isZero_0 : decode cX6_isZero 0 = .ok (.aload_n 0, 1) := by decide +kernel
theorem dX6_isZero_1 : decode cX6_isZero 1 = .ok (.astore_n 1, 1) := by decide +kernel
theorem dX6_isZero_2 : decode cX6_isZero 2 = .ok (.aload_n 1, 1) := by decide +kernel
theorem dX6_isZero_3 : decode cX6_isZero 3 = .ok (.arraylength, 1) := by decide +kernel
theorem dX6_isZero_4 : decode cX6_isZero 4 = .ok (.istore_n 2, 1) := by decide +kernel
theorem dX6_isZero_5 : decode cX6_isZero 5 = .ok (.iconst 0, 1) := by decide +kernel
theorem dX6_isZero_6 : decode cX6_isZero 6 = .ok (.istore_n 3, 1) := by decide +kernel
theorem dX6_isZero_7 : decode cX6_isZero 7 = .ok (.iload_n 3, 1) := by decide +kernel
theorem dX6_isZero_8 : decode cX6_isZero 8 = .ok (.iload_n 2, 1) := by decide +kernel
theorem dX6_isZero_9 : decode cX6_isZero 9 = .ok (.if_icmp .ge 21, 3) := by decide +kernel
theorem dX6_isZero_12 : decode cX6_isZero 12 = .ok (.aload_n 1, 1) := by decide +kernel
theorem dX6_isZero_13 : decode cX6_isZero 13 = .ok (.iload_n 3, 1) := by decide +kernel
theorem dX6_isZero_14 : decode cX6_isZero 14 = .ok (.iaload, 1) := by decide +kernel
theorem dX6_isZero_15 : decode cX6_isZero 15 = .ok (.istore 4, 2) := by decide +kernel
theorem dX6_isZero_17 : decode cX6_isZero 17 = .ok (.iload 4, 2) := by decide +kernel
theorem dX6_isZero_19 : decode cX6_isZero 19 = .ok (.ifCond .eq 5, 3) := by decide +kernel
theorem dX6_isZero_22 : decode cX6_isZero 22 = .ok (.iconst 0, 1) := by decide +kernel
theorem dX6_isZero_23 : decode cX6_isZero 23 = .ok (.ireturn, 1) := by decide +kernel
theorem dX6_isZero_24 : decode cX6_isZero 24 = .ok (.iinc 3 1, 3) := by decide +kernel
theorem dX6_isZero_27 : decode cX6_isZero 27 = .ok (.goto (-20), 3) := by decide +kernel
theorem dX6_isZero_30 : decode cX6_isZero 30 = .ok (.iconst 1, 1) := by decide +kernel
theorem dX6_isZero_31 : decode cX6_isZero 31 = .ok (.ireturn, 1) := by decide +kernel
theorem dX6_isInside_0 : decode cX6_isInside 0 = .ok (.iconst 0, 1) := by decide +kernel
theorem dX6_isInside_1 : decode cX6_isInside 1 = .ok (.istore_n 3, 1) := by decide +kernel
theorem dX6_isInside_2 : decode cX6_isInside 2 = .ok (.iload_n 3, 1) := by decide +kernel
theorem dX6_isInside_3 : decode cX6_isInside 3 = .ok (.aload_n 0, 1) := by decide +kernel
theorem dX6_isInside_4 : decode cX6_isInside 4 = .ok (.getfield 19, 3) := by decide +kernel
theorem dX6_isInside_7 : decode cX6_isInside 7 = .ok (.invokevirtual 100, 3) := by decide +kernel
theorem dX6_isInside_10 : decode cX6_isInside 10 = .ok (.if_icmp .ge 46, 3) := by decide +kernel
theorem dX6_isInside_13 : decode cX6_isInside 13 = .ok (.aload_n 0, 1) := by decide +kernel
theorem dX6_isInside_14 : decode cX6_isInside 14 = .ok (.getfield 19, 3) := by decide +kernel
theorem dX6_isInside_17 : decode cX6_isInside 17 = .ok (.iload_n 1, 1) := by decide +kernel
theorem dX6_isInside_18 : decode cX6_isInside 18 = .ok (.iload_n 3, 1) := by decide +kernel
theorem dX6_isInside_19 : decode cX6_isInside 19 = .ok (.aload_n 0, 1) := by decide +kernel
theorem dX6_isInside_20 : decode cX6_isInside 20 = .ok (.getfield 55, 3) := by decide +kernel
theorem dX6_isInside_23 : decode cX6_isInside 23 = .ok (.invokevirtual 117, 3) := by decide +kernel
theorem dX6_isInside_26 : decode cX6_isInside 26 = .ok (.aload_n 0, 1) := by decide +kernel
theorem dX6_isInside_27 : decode cX6_isInside 27 = .ok (.getfield 19, 3) := by decide +kernel
theorem dX6_isInside_30 : decode cX6_isInside 30 = .ok (.iload_n 2, 1) := by decide +kernel
theorem dX6_isInside_31 : decode cX6_isInside 31 = .ok (.aload_n 0, 1) := by decide +kernel
theorem dX6_isInside_32 : decode cX6_isInside 32 = .ok (.getfield 55, 3) := by decide +kernel
theorem dX6_isInside_35 : decode cX6_isInside 35 = .ok (.invokevirtual 149, 3) := by decide +kernel
theorem dX6_isInside_38 : decode cX6_isInside 38 = .ok (.aload_n 0, 1) := by decide +kernel
theorem dX6_isInside_39 : decode cX6_isInside 39 = .ok (.getfield 55, 3) := by decide +kernel
theorem dX6_isInside_42 : decode cX6_isInside 42 = .ok (.invokestatic 153, 3) := by decide +kernel
theorem dX6_isInside_45 : decode cX6_isInside 45 = .ok (.ifCond .ne 5, 3) := by decide +kernel
theorem dX6_isInside_48 : decode cX6_isInside 48 = .ok (.iconst 0, 1) := by decide +kernel
theorem dX6_isInside_49 : decode cX6_isInside 49 = .ok (.ireturn, 1) := by decide +kernel
theorem dX6_isInside_50 : decode cX6_isInside 50 = .ok (.iinc 3 1, 3) := by decide +kernel
theorem dX6_isInside_53 : decode cX6_isInside 53 = .ok (.goto (-51), 3) := by decide +kernel
theorem dX6_isInside_56 : decode cX6_isInside 56 = .ok (.iconst 1, 1) := by decide +kernel
theorem dX6_isInside_57 : decode cX6_isInside 57 = .ok (.ireturn, 1) := by decide +kernel
theorem dX6_doDeed_0 : decode cX6_doDeed 0 = .ok (.aload_n 0, 1) := by decide +kernel
theorem dX6_doDeed_1 : decode cX6_doDeed 1 = .ok (.iconst 4, 1) := by decide +kernel
theorem dX6_doDeed_2 : decode cX6_doDeed 2 = .ok (.invokevirtual 252, 3) := by decide +kernel
theorem dX6_doDeed_5 : decode cX6_doDeed 5 = .ok (.istore_n 1, 1) := by decide +kernel
theorem dX6_doDeed_6 : decode cX6_doDeed 6 = .ok (.aload_n 0, 1) := by decide +kernel
theorem dX6_doDeed_7 : decode cX6_doDeed 7 = .ok (.iconst 0, 1) := by decide +kernel
theorem dX6_doDeed_8 : decode cX6_doDeed 8 = .ok (.iconst 0, 1) := by decide +kernel
theorem dX6_doDeed_9 : decode cX6_doDeed 9 = .ok (.iconst 0, 1) := by decide +kernel
theorem dX6_doDeed_10 : decode cX6_doDeed 10 = .ok (.invokevirtual 205, 3) := by decide +kernel
theorem dX6_doDeed_13 : decode cX6_doDeed 13 = .ok (.iconst 0, 1) := by decide +kernel
theorem dX6_doDeed_14 : decode cX6_doDeed 14 = .ok (.istore_n 2, 1) := by decide +kernel
theorem dX6_doDeed_15 : decode cX6_doDeed 15 = .ok (.iload_n 2, 1) := by decide +kernel
theorem dX6_doDeed_16 : decode cX6_doDeed 16 = .ok (.aload_n 0, 1) := by decide +kernel
theorem dX6_doDeed_17 : decode cX6_doDeed 17 = .ok (.getfield 19, 3) := by decide +kernel
theorem dX6_doDeed_20 : decode cX6_doDeed 20 = .ok (.invokevirtual 100, 3) := by decide +kernel
theorem dX6_doDeed_23 : decode cX6_doDeed 23 = .ok (.if_icmp .ge 31, 3) := by decide +kernel
theorem dX6_doDeed_26 : decode cX6_doDeed 26 = .ok (.iload_n 2, 1) := by decide +kernel
theorem dX6_doDeed_27 : decode cX6_doDeed 27 = .ok (.iconst 3, 1) := by decide +kernel
theorem dX6_doDeed_28 : decode cX6_doDeed 28 = .ok (.if_icmp .ge 26, 3) := by decide +kernel
theorem dX6_doDeed_31 : decode cX6_doDeed 31 = .ok (.aload_n 0, 1) := by decide +kernel
theorem dX6_doDeed_32 : decode cX6_doDeed 32 = .ok (.getfield 55, 3) := by decide +kernel
theorem dX6_doDeed_35 : decode cX6_doDeed 35 = .ok (.iload_n 2, 1) := by decide +kernel
theorem dX6_doDeed_36 : decode cX6_doDeed 36 = .ok (.aload_n 0, 1) := by decide +kernel
theorem dX6_doDeed_37 : decode cX6_doDeed 37 = .ok (.aload_n 0, 1) := by decide +kernel
theorem dX6_doDeed_38 : decode cX6_doDeed 38 = .ok (.getfield 19, 3) := by decide +kernel
theorem dX6_doDeed_41 : decode cX6_doDeed 41 = .ok (.invokevirtual 97, 3) := by decide +kernel
theorem dX6_doDeed_44 : decode cX6_doDeed 44 = .ok (.invokevirtual 252, 3) := by decide +kernel
theorem dX6_doDeed_47 : decode cX6_doDeed 47 = .ok (.iastore, 1) := by decide +kernel
theorem dX6_doDeed_48 : decode cX6_doDeed 48 = .ok (.iinc 2 1, 3) := by decide +kernel
theorem dX6_doDeed_51 : decode cX6_doDeed 51 = .ok (.goto (-36), 3) := by decide +kernel
theorem dX6_doDeed_54 : decode cX6_doDeed 54 = .ok (.aload_n 0, 1) := by decide +kernel
theorem dX6_doDeed_55 : decode cX6_doDeed 55 = .ok (.getfield 33, 3) := by decide +kernel
theorem dX6_doDeed_58 : decode cX6_doDeed 58 = .ok (.aload_n 0, 1) := by decide +kernel
theorem dX6_doDeed_59 : decode cX6_doDeed 59 = .ok (.getfield 19, 3) := by decide +kernel
theorem dX6_doDeed_62 : decode cX6_doDeed 62 = .ok (.iload_n 1, 1) := by decide +kernel
theorem dX6_doDeed_63 : decode cX6_doDeed 63 = .ok (.aload_n 0, 1) := by decide +kernel
theorem dX6_doDeed_64 : decode cX6_doDeed 64 = .ok (.getfield 55, 3) := by decide +kernel
theorem dX6_doDeed_67 : decode cX6_doDeed 67 = .ok (.invokevirtual 170, 3) := by decide +kernel
theorem dX6_doDeed_70 : decode cX6_doDeed 70 = .ok (.return_, 1) := by decide +kernel
theorem dX6_draw_0 : decode cX6_draw 0 = .ok (.aload_n 0, 1) := by decide +kernel
theorem dX6_draw_1 : decode cX6_draw 1 = .ok (.aload_n 0, 1) := by decide +kernel
theorem dX6_draw_2 : decode cX6_draw 2 = .ok (.getfield 235, 3) := by decide +kernel
theorem dX6_draw_5 : decode cX6_draw 5 = .ok (.ldc 255, 2) := by decide +kernel
theorem dX6_draw_7 : decode cX6_draw 7 = .ok (.imul, 1) := by decide +kernel
theorem dX6_draw_8 : decode cX6_draw 8 = .ok (.sipush 12345, 3) := by decide +kernel
theorem dX6_draw_11 : decode cX6_draw 11 = .ok (.iadd, 1) := by decide +kernel
theorem dX6_draw_12 : decode cX6_draw 12 = .ok (.putfield 235, 3) := by decide +kernel
theorem dX6_draw_15 : decode cX6_draw 15 = .ok (.iload_n 1, 1) := by decide +kernel
theorem dX6_draw_16 : decode cX6_draw 16 = .ok (.ifCond .le 15, 3) := by decide +kernel
theorem dX6_draw_19 : decode cX6_draw 19 = .ok (.aload_n 0, 1) := by decide +kernel
theorem dX6_draw_20 : decode cX6_draw 20 = .ok (.getfield 235, 3) := by decide +kernel
theorem dX6_draw_23 : decode cX6_draw 23 = .ok (.bipush 8, 2) := by decide +kernel
theorem dX6_draw_25 : decode cX6_draw 25 = .ok (.iushr, 1) := by decide +kernel
theorem dX6_draw_26 : decode cX6_draw 26 = .ok (.iload_n 1, 1) := by decide +kernel
theorem dX6_draw_27 : decode cX6_draw 27 = .ok (.irem, 1) := by decide +kernel
theorem dX6_draw_28 : decode cX6_draw 28 = .ok (.goto 4, 3) := by decide +kernel
theorem dX6_draw_31 : decode cX6_draw 31 = .ok (.iconst 0, 1) := by decide +kernel
theorem dX6_draw_32 : decode cX6_draw 32 = .ok (.ireturn, 1) := by decide +kernel
