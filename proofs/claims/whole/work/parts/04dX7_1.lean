theorem dX7_often_20 : decode cX7_often 20 = .ok (.iload_n 2, 1) := by decide +kernel
theorem dX7_often_21 : decode cX7_often 21 = .ok (.irem, 1) := by decide +kernel
theorem dX7_often_22 : decode cX7_often 22 = .ok (.iload_n 2, 1) := by decide +kernel
theorem dX7_often_23 : decode cX7_often 23 = .ok (.imul, 1) := by decide +kernel
theorem dX7_often_24 : decode cX7_often 24 = .ok (.iadd, 1) := by decide +kernel
theorem dX7_often_25 : decode cX7_often 25 = .ok (.iload_n 0, 1) := by decide +kernel
theorem dX7_often_26 : decode cX7_often 26 = .ok (.iload_n 2, 1) := by decide +kernel
theorem dX7_often_27 : decode cX7_often 27 = .ok (.irem, 1) := by decide +kernel
theorem dX7_often_28 : decode cX7_often 28 = .ok (.iload_n 1, 1) := by decide +kernel
theorem dX7_often_29 : decode cX7_often 29 = .ok (.imul, 1) := by decide +kernel
theorem dX7_often_30 : decode cX7_often 30 = .ok (.iload_n 2, 1) := by decide +kernel
theorem dX7_often_31 : decode cX7_often 31 = .ok (.irem, 1) := by decide +kernel
theorem dX7_often_32 : decode cX7_often 32 = .ok (.iadd, 1) := by decide +kernel
theorem dX7_often_33 : decode cX7_often 33 = .ok (.ireturn, 1) := by decide +kernel
theorem dX7_dot_0 : decode cX7_dot 0 = .ok (.iload_n 0, 1) := by decide +kernel
theorem dX7_dot_1 : decode cX7_dot 1 = .ok (.iload_n 2, 1) := by decide +kernel
theorem dX7_dot_2 : decode cX7_dot 2 = .ok (.iload_n 2, 1) := by decide +kernel
theorem dX7_dot_3 : decode cX7_dot 3 = .ok (.imul, 1) := by decide +kernel
theorem dX7_dot_4 : decode cX7_dot 4 = .ok (.idiv, 1) := by decide +kernel
theorem dX7_dot_5 : decode cX7_dot 5 = .ok (.iload_n 1, 1) := by decide +kernel
theorem dX7_dot_6 : decode cX7_dot 6 = .ok (.iload_n 2, 1) := by decide +kernel
theorem dX7_dot_7 : decode cX7_dot 7 = .ok (.iload_n 2, 1) := by decide +kernel
theorem dX7_dot_8 : decode cX7_dot 8 = .ok (.imul, 1) := by decide +kernel
theorem dX7_dot_9 : decode cX7_dot 9 = .ok (.idiv, 1) := by decide +kernel
theorem dX7_dot_10 : decode cX7_dot 10 = .ok (.imul, 1) := by decide +kernel
theorem dX7_dot_11 : decode cX7_dot 11 = .ok (.iload_n 0, 1) := by decide +kernel
theorem dX7_dot_12 : decode cX7_dot 12 = .ok (.iload_n 2, 1) := by decide +kernel
theorem dX7_dot_13 : decode cX7_dot 13 = .ok (.idiv, 1) := by decide +kernel
theorem dX7_dot_14 : decode cX7_dot 14 = .ok (.iload_n 2, 1) := by decide +kernel
theorem dX7_dot_15 : decode cX7_dot 15 = .ok (.irem, 1) := by decide +kernel
theorem dX7_dot_16 : decode cX7_dot 16 = .ok (.iload_n 1, 1) := by decide +kernel
theorem dX7_dot_17 : decode cX7_dot 17 = .ok (.iload_n 2, 1) := by decide +kernel
theorem dX7_dot_18 : decode cX7_dot 18 = .ok (.idiv, 1) := by decide +kernel
theorem dX7_dot_19 : decode cX7_dot 19 = .ok (.iload_n 2, 1) := by decide +kernel
theorem dX7_dot_20 : decode cX7_dot 20 = .ok (.irem, 1) := by decide +kernel
theorem dX7_dot_21 : decode cX7_dot 21 = .ok (.imul, 1) := by decide +kernel
theorem dX7_dot_22 : decode cX7_dot 22 = .ok (.iadd, 1) := by decide +kernel
theorem dX7_dot_23 : decode cX7_dot 23 = .ok (.iload_n 0, 1) := by decide +kernel
theorem dX7_dot_24 : decode cX7_dot 24 = .ok (.iload_n 2, 1) := by decide +kernel
theorem dX7_dot_25 : decode cX7_dot 25 = .ok (.irem, 1) := by decide +kernel
theorem dX7_dot_26 : decode cX7_dot 26 = .ok (.iload_n 1, 1) := by decide +kernel
theorem dX7_dot_27 : decode cX7_dot 27 = .ok (.iload_n 2, 1) := by decide +kernel
theorem dX7_dot_28 : decode cX7_dot 28 = .ok (.irem, 1) := by decide +kernel
theorem dX7_dot_29 : decode cX7_dot 29 = .ok (.imul, 1) := by decide +kernel
theorem dX7_dot_30 : decode cX7_dot 30 = .ok (.iadd, 1) := by decide +kernel
theorem dX7_dot_31 : decode cX7_dot 31 = .ok (.iload_n 2, 1) := by decide +kernel
theorem dX7_dot_32 : decode cX7_dot 32 = .ok (.irem, 1) := by decide +kernel
theorem dX7_dot_33 : decode cX7_dot 33 = .ok (.ireturn, 1) := by decide +kernel
theorem dX7_step_0 : decode cX7_step 0 = .ok (.aload_n 0, 1) := by decide +kernel
theorem dX7_step_1 : decode cX7_step 1 = .ok (.iconst 1, 1) := by decide +kernel
theorem dX7_step_2 : decode cX7_step 2 = .ok (.iaload, 1) := by decide +kernel
theorem dX7_step_3 : decode cX7_step 3 = .ok (.iconst 3, 1) := by decide +kernel
theorem dX7_step_4 : decode cX7_step 4 = .ok (.if_icmp .ne 7, 3) := by decide +kernel
theorem dX7_step_7 : decode cX7_step 7 = .ok (.iconst 1, 1) := by decide +kernel
theorem dX7_step_8 : decode cX7_step 8 = .ok (.goto 23, 3) := by decide +kernel
theorem dX7_step_11 : decode cX7_step 11 = .ok (.aload_n 0, 1) := by decide +kernel
theorem dX7_step_12 : decode cX7_step 12 = .ok (.iconst 1, 1) := by decide +kernel
theorem dX7_step_13 : decode cX7_step 13 = .ok (.iaload, 1) := by decide +kernel
theorem dX7_step_14 : decode cX7_step 14 = .ok (.iconst 2, 1) := by decide +kernel
theorem dX7_step_15 : decode cX7_step 15 = .ok (.if_icmp .ne 9, 3) := by decide +kernel
theorem dX7_step_18 : decode cX7_step 18 = .ok (.aload_n 0, 1) := by decide +kernel
theorem dX7_step_19 : decode cX7_step 19 = .ok (.iconst 0, 1) := by decide +kernel
theorem dX7_step_20 : decode cX7_step 20 = .ok (.iaload, 1) := by decide +kernel
theorem dX7_step_21 : decode cX7_step 21 = .ok (.goto 10, 3) := by decide +kernel
theorem dX7_step_24 : decode cX7_step 24 = .ok (.aload_n 0, 1) := by decide +kernel
theorem dX7_step_25 : decode cX7_step 25 = .ok (.iconst 0, 1) := by decide +kernel
theorem dX7_step_26 : decode cX7_step 26 = .ok (.iaload, 1) := by decide +kernel
theorem dX7_step_27 : decode cX7_step 27 = .ok (.aload_n 0, 1) := by decide +kernel
theorem dX7_step_28 : decode cX7_step 28 = .ok (.iconst 0, 1) := by decide +kernel
theorem dX7_step_29 : decode cX7_step 29 = .ok (.iaload, 1) := by decide +kernel
theorem dX7_step_30 : decode cX7_step 30 = .ok (.imul, 1) := by decide +kernel
theorem dX7_step_31 : decode cX7_step 31 = .ok (.ireturn, 1) := by decide +kernel
theorem dX7_end__0 : decode cX7_end_ 0 = .ok (.aload_n 0, 1) := by decide +kernel
theorem dX7_end__1 : decode cX7_end_ 1 = .ok (.iconst 0, 1) := by decide +kernel
theorem dX7_end__2 : decode cX7_end_ 2 = .ok (.iaload, 1) := by decide +kernel
theorem dX7_end__3 : decode cX7_end_ 3 = .ok (.aload_n 0, 1) := by decide +kernel
theorem dX7_end__4 : decode cX7_end_ 4 = .ok (.iconst 0, 1) := by decide +kernel
theorem dX7_end__5 : decode cX7_end_ 5 = .ok (.iaload, 1) := by decide +kernel
theorem dX7_end__6 : decode cX7_end_ 6 = .ok (.imul, 1) := by decide +kernel
theorem dX7_end__7 : decode cX7_end_ 7 = .ok (.aload_n 0, 1) := by decide +kernel
theorem dX7_end__8 : decode cX7_end_ 8 = .ok (.iconst 0, 1) := by decide +kernel
theorem dX7_end__9 : decode cX7_end_ 9 = .ok (.iaload, 1) := by decide +kernel
theorem dX7_end__10 : decode cX7_end_ 10 = .ok (.imul, 1) := by decide +kernel
theorem dX7_end__11 : decode cX7_end_ 11 = .ok (.ireturn, 1) := by decide +kernel
theorem dX7_adds_0 : decode cX7_adds 0 = .ok (.aload_n 0, 1) := by decide +kernel
theorem dX7_adds_1 : decode cX7_adds 1 = .ok (.getfield 180, 3) := by decide +kernel
theorem dX7_adds_4 : decode cX7_adds 4 = .ok (.istore 4, 2) := by decide +kernel
theorem dX7_adds_6 : decode cX7_adds 6 = .ok (.iload_n 3, 1) := by decide +kernel
theorem dX7_adds_7 : decode cX7_adds 7 = .ok (.istore 5, 2) := by decide +kernel
theorem dX7_adds_9 : decode cX7_adds 9 = .ok (.aload_n 2, 1) := by decide +kernel
theorem dX7_adds_10 : decode cX7_adds 10 = .ok (.iload 5, 2) := by decide +kernel
theorem dX7_adds_12 : decode cX7_adds 12 = .ok (.baload, 1) := by decide +kernel
theorem dX7_adds_13 : decode cX7_adds 13 = .ok (.ifCond .ne 76, 3) := by decide +kernel
theorem dX7_adds_16 : decode cX7_adds 16 = .ok (.iconst 0, 1) := by decide +kernel
theorem dX7_adds_17 : decode cX7_adds 17 = .ok (.istore 6, 2) := by decide +kernel
theorem dX7_adds_19 : decode cX7_adds 19 = .ok (.iload 6, 2) := by decide +kernel
theorem dX7_adds_21 : decode cX7_adds 21 = .ok (.iload 4, 2) := by decide +kernel
theorem dX7_adds_23 : decode cX7_adds 23 = .ok (.if_icmp .ge 52, 3) := by decide +kernel
theorem dX7_adds_26 : decode cX7_adds 26 = .ok (.aload_n 0, 1) := by decide +kernel
theorem dX7_adds_27 : decode cX7_adds 27 = .ok (.getfield 108, 3) := by decide +kernel
theorem dX7_adds_30 : decode cX7_adds 30 = .ok (.iload 6, 2) := by decide +kernel
theorem dX7_adds_32 : decode cX7_adds 32 = .ok (.iaload, 1) := by decide +kernel
theorem dX7_adds_33 : decode cX7_adds 33 = .ok (.iload 5, 2) := by decide +kernel
theorem dX7_adds_35 : decode cX7_adds 35 = .ok (.aload_n 1, 1) := by decide +kernel
theorem dX7_adds_36 : decode cX7_adds 36 = .ok (.iconst 0, 1) := by decide +kernel
theorem dX7_adds_37 : decode cX7_adds 37 = .ok (.iaload, 1) := by decide +kernel
theorem dX7_adds_38 : decode cX7_adds 38 = .ok (.invokestatic 183, 3) := by decide +kernel
theorem dX7_adds_41 : decode cX7_adds 41 = .ok (.istore 7, 2) := by decide +kernel
theorem dX7_adds_43 : decode cX7_adds 43 = .ok (.aload_n 2, 1) := by decide +kernel
theorem dX7_adds_44 : decode cX7_adds 44 = .ok (.iload 7, 2) := by decide +kernel
theorem dX7_adds_46 : decode cX7_adds 46 = .ok (.iconst 1, 1) := by decide +kernel
theorem dX7_adds_47 : decode cX7_adds 47 = .ok (.bastore, 1) := by decide +kernel
theorem dX7_adds_48 : decode cX7_adds 48 = .ok (.aload_n 0, 1) := by decide +kernel
theorem dX7_adds_49 : decode cX7_adds 49 = .ok (.getfield 108, 3) := by decide +kernel
theorem dX7_adds_52 : decode cX7_adds 52 = .ok (.aload_n 0, 1) := by decide +kernel
theorem dX7_adds_53 : decode cX7_adds 53 = .ok (.getfield 180, 3) := by decide +kernel
theorem dX7_adds_56 : decode cX7_adds 56 = .ok (.iload 7, 2) := by decide +kernel
theorem dX7_adds_58 : decode cX7_adds 58 = .ok (.iastore, 1) := by decide +kernel
theorem dX7_adds_59 : decode cX7_adds 59 = .ok (.aload_n 0, 1) := by decide +kernel
theorem dX7_adds_60 : decode cX7_adds 60 = .ok (.dup, 1) := by decide +kernel
theorem dX7_adds_61 : decode cX7_adds 61 = .ok (.getfield 180, 3) := by decide +kernel
theorem dX7_adds_64 : decode cX7_adds 64 = .ok (.iconst 1, 1) := by decide +kernel
theorem dX7_adds_65 : decode cX7_adds 65 = .ok (.iadd, 1) := by decide +kernel
theorem dX7_adds_66 : decode cX7_adds 66 = .ok (.putfield 180, 3) := by decide +kernel
theorem dX7_adds_69 : decode cX7_adds 69 = .ok (.iinc 6 1, 3) := by decide +kernel
theorem dX7_adds_72 : decode cX7_adds 72 = .ok (.goto (-53), 3) := by decide +kernel
theorem dX7_adds_75 : decode cX7_adds 75 = .ok (.iload 5, 2) := by decide +kernel
theorem dX7_adds_77 : decode cX7_adds 77 = .ok (.iload_n 3, 1) := by decide +kernel
theorem dX7_adds_78 : decode cX7_adds 78 = .ok (.aload_n 1, 1) := by decide +kernel
theorem dX7_adds_79 : decode cX7_adds 79 = .ok (.iconst 0, 1) := by decide +kernel
theorem dX7_adds_80 : decode cX7_adds 80 = .ok (.iaload, 1) := by decide +kernel
theorem dX7_adds_81 : decode cX7_adds 81 = .ok (.invokestatic 183, 3) := by decide +kernel
theorem dX7_adds_84 : decode cX7_adds 84 = .ok (.istore 5, 2) := by decide +kernel
theorem dX7_adds_86 : decode cX7_adds 86 = .ok (.goto (-77), 3) := by decide +kernel
theorem dX7_adds_89 : decode cX7_adds 89 = .ok (.return_, 1) := by decide +kernel
theorem dX7_clears_0 : decode cX7_clears 0 = .ok (.iconst 0, 1) := by decide +kernel
theorem dX7_clears_1 : decode cX7_clears 1 = .ok (.istore_n 2, 1) := by decide +kernel
theorem dX7_clears_2 : decode cX7_clears 2 = .ok (.iload_n 2, 1) := by decide +kernel
theorem dX7_clears_3 : decode cX7_clears 3 = .ok (.sipush 27000, 3) := by decide +kernel
theorem dX7_clears_6 : decode cX7_clears 6 = .ok (.if_icmp .ge 13, 3) := by decide +kernel
theorem dX7_clears_9 : decode cX7_clears 9 = .ok (.aload_n 1, 1) := by decide +kernel
theorem dX7_clears_10 : decode cX7_clears 10 = .ok (.iload_n 2, 1) := by decide +kernel
theorem dX7_clears_11 : decode cX7_clears 11 = .ok (.iconst 0, 1) := by decide +kernel
theorem dX7_clears_12 : decode cX7_clears 12 = .ok (.bastore, 1) := by decide +kernel
theorem dX7_clears_13 : decode cX7_clears 13 = .ok (.iinc 2 1, 3) := by decide +kernel
theorem dX7_clears_16 : decode cX7_clears 16 = .ok (.goto (-14), 3) := by decide +kernel
theorem dX7_clears_19 : decode cX7_clears 19 = .ok (.aload_n 1, 1) := by decide +kernel
theorem dX7_clears_20 : decode cX7_clears 20 = .ok (.iconst 0, 1) := by decide +kernel
theorem dX7_clears_21 : decode cX7_clears 21 = .ok (.iconst 1, 1) := by decide +kernel
theorem dX7_clears_22 : decode cX7_clears 22 = .ok (.bastore, 1) := by decide +kernel
theorem dX7_clears_23 : decode cX7_clears 23 = .ok (.aload_n 0, 1) := by decide +kernel
theorem dX7_clears_24 : decode cX7_clears 24 = .ok (.getfield 108, 3) := by decide +kernel
theorem dX7_clears_27 : decode cX7_clears 27 = .ok (.iconst 0, 1) := by decide +kernel
theorem dX7_clears_28 : decode cX7_clears 28 = .ok (.iconst 0, 1) := by decide +kernel
theorem dX7_clears_29 : decode cX7_clears 29 = .ok (.iastore, 1) := by decide +kernel
theorem dX7_clears_30 : decode cX7_clears 30 = .ok (.aload_n 0, 1) := by decide +kernel
theorem dX7_clears_31 : decode cX7_clears 31 = .ok (.iconst 1, 1) := by decide +kernel
theorem dX7_clears_32 : decode cX7_clears 32 = .ok (.putfield 180, 3) := by decide +kernel
theorem dX7_clears_35 : decode cX7_clears 35 = .ok (.return_, 1) := by decide +kernel
theorem dX7_laysSet_0 : decode cX7_laysSet 0 = .ok (.aload_n 0, 1) := by decide +kernel
theorem dX7_laysSet_1 : decode cX7_laysSet 1 = .ok (.aload_n 3, 1) := by decide +kernel
theorem dX7_laysSet_2 : decode cX7_laysSet 2 = .ok (.invokevirtual 187, 3) := by decide +kernel
theorem dX7_laysSet_5 : decode cX7_laysSet 5 = .ok (.iconst 0, 1) := by decide +kernel
theorem dX7_laysSet_6 : decode cX7_laysSet 6 = .ok (.istore 4, 2) := by decide +kernel
theorem dX7_laysSet_8 : decode cX7_laysSet 8 = .ok (.iload 4, 2) := by decide +kernel
theorem dX7_laysSet_10 : decode cX7_laysSet 10 = .ok (.iconst 3, 1) := by decide +kernel
theorem dX7_laysSet_11 : decode cX7_laysSet 11 = .ok (.if_icmp .ge 25, 3) := by decide +kernel
theorem dX7_laysSet_14 : decode cX7_laysSet 14 = .ok (.aload_n 0, 1) := by decide +kernel
theorem dX7_laysSet_15 : decode cX7_laysSet 15 = .ok (.aload_n 1, 1) := by decide +kernel
theorem dX7_laysSet_16 : decode cX7_laysSet 16 = .ok (.aload_n 3, 1) := by decide +kernel
theorem dX7_laysSet_17 : decode cX7_laysSet 17 = .ok (.aload_n 1, 1) := by decide +kernel
theorem dX7_laysSet_18 : decode cX7_laysSet 18 = .ok (.iconst 2, 1) := by decide +kernel
theorem dX7_laysSet_19 : decode cX7_laysSet 19 = .ok (.iconst 3, 1) := by decide +kernel
theorem dX7_laysSet_20 : decode cX7_laysSet 20 = .ok (.iload_n 2, 1) := by decide +kernel
theorem dX7_laysSet_21 : decode cX7_laysSet 21 = .ok (.imul, 1) := by decide +kernel
theorem dX7_laysSet_22 : decode cX7_laysSet 22 = .ok (.iadd, 1) := by decide +kernel
theorem dX7_laysSet_23 : decode cX7_laysSet 23 = .ok (.iload 4, 2) := by decide +kernel
theorem dX7_laysSet_25 : decode cX7_laysSet 25 = .ok (.iadd, 1) := by decide +kernel
theorem dX7_laysSet_26 : decode cX7_laysSet 26 = .ok (.iaload, 1) := by decide +kernel
theorem dX7_laysSet_27 : decode cX7_laysSet 27 = .ok (.invokevirtual 132, 3) := by decide +kernel
theorem dX7_laysSet_30 : decode cX7_laysSet 30 = .ok (.iinc 4 1, 3) := by decide +kernel
theorem dX7_laysSet_33 : decode cX7_laysSet 33 = .ok (.goto (-25), 3) := by decide +kernel
theorem dX7_laysSet_36 : decode cX7_laysSet 36 = .ok (.return_, 1) := by decide +kernel
theorem dX7_firstOf_0 : decode cX7_firstOf 0 = .ok (.iload_n 1, 1) := by decide +kernel
theorem dX7_firstOf_1 : decode cX7_firstOf 1 = .ok (.istore_n 3, 1) := by decide +kernel
theorem dX7_firstOf_2 : decode cX7_firstOf 2 = .ok (.iload_n 3, 1) := by decide +kernel
theorem dX7_firstOf_3 : decode cX7_firstOf 3 = .ok (.iload_n 2, 1) := by decide +kernel
theorem dX7_firstOf_4 : decode cX7_firstOf 4 = .ok (.if_icmp .ge 17, 3) := by decide +kernel
theorem dX7_firstOf_7 : decode cX7_firstOf 7 = .ok (.aload_n 0, 1) := by decide +kernel
theorem dX7_firstOf_8 : decode cX7_firstOf 8 = .ok (.iload_n 3, 1) := by decide +kernel
theorem dX7_firstOf_9 : decode cX7_firstOf 9 = .ok (.baload, 1) := by decide +kernel
theorem dX7_firstOf_10 : decode cX7_firstOf 10 = .ok (.ifCond .eq 5, 3) := by decide +kernel
theorem dX7_firstOf_13 : decode cX7_firstOf 13 = .ok (.iload_n 3, 1) := by decide +kernel
theorem dX7_firstOf_14 : decode cX7_firstOf 14 = .ok (.ireturn, 1) := by decide +kernel
theorem dX7_firstOf_15 : decode cX7_firstOf 15 = .ok (.iinc 3 1, 3) := by decide +kernel
theorem dX7_firstOf_18 : decode cX7_firstOf 18 = .ok (.goto (-16), 3) := by decide +kernel
theorem dX7_firstOf_21 : decode cX7_firstOf 21 = .ok (.iconst 0, 1) := by decide +kernel
theorem dX7_firstOf_22 : decode cX7_firstOf 22 = .ok (.ireturn, 1) := by decide +kernel
theorem dX7_keeps_0 : decode cX7_keeps 0 = .ok (.aload_n 0, 1) := by decide +kernel
theorem dX7_keeps_1 : decode cX7_keeps 1 = .ok (.iconst 0, 1) := by decide +kernel
theorem dX7_keeps_2 : decode cX7_keeps 2 = .ok (.iaload, 1) := by decide +kernel
theorem dX7_keeps_3 : decode cX7_keeps 3 = .ok (.istore_n 3, 1) := by decide +kernel
theorem dX7_keeps_4 : decode cX7_keeps 4 = .ok (.aload_n 0, 1) := by decide +kernel
theorem dX7_keeps_5 : decode cX7_keeps 5 = .ok (.iconst 2, 1) := by decide +kernel
theorem dX7_keeps_6 : decode cX7_keeps 6 = .ok (.iconst 3, 1) := by decide +kernel
theorem dX7_keeps_7 : decode cX7_keeps 7 = .ok (.iload_n 2, 1) := by decide +kernel
theorem dX7_keeps_8 : decode cX7_keeps 8 = .ok (.imul, 1) := by decide +kernel
theorem dX7_keeps_9 : decode cX7_keeps 9 = .ok (.iadd, 1) := by decide +kernel
theorem dX7_keeps_10 : decode cX7_keeps 10 = .ok (.aload_n 1, 1) := by decide +kernel
theorem dX7_keeps_11 : decode cX7_keeps 11 = .ok (.iload_n 3, 1) := by decide +kernel
theorem dX7_keeps_12 : decode cX7_keeps 12 = .ok (.iload_n 3, 1) := by decide +kernel
theorem dX7_keeps_13 : decode cX7_keeps 13 = .ok (.imul, 1) := by decide +kernel
theorem dX7_keeps_14 : decode cX7_keeps 14 = .ok (.iload_n 3, 1) := by decide +kernel
theorem dX7_keeps_15 : decode cX7_keeps 15 = .ok (.iload_n 3, 1) := by decide +kernel
theorem dX7_keeps_16 : decode cX7_keeps 16 = .ok (.imul, 1) := by decide +kernel
theorem dX7_keeps_17 : decode cX7_keeps 17 = .ok (.iload_n 3, 1) := by decide +kernel
theorem dX7_keeps_18 : decode cX7_keeps 18 = .ok (.imul, 1) := by decide +kernel
theorem dX7_keeps_19 : decode cX7_keeps 19 = .ok (.invokestatic 191, 3) := by decide +kernel
theorem dX7_keeps_22 : decode cX7_keeps 22 = .ok (.iastore, 1) := by decide +kernel
theorem dX7_keeps_23 : decode cX7_keeps 23 = .ok (.aload_n 0, 1) := by decide +kernel
theorem dX7_keeps_24 : decode cX7_keeps 24 = .ok (.iconst 2, 1) := by decide +kernel
theorem dX7_keeps_25 : decode cX7_keeps 25 = .ok (.iconst 3, 1) := by decide +kernel
theorem dX7_keeps_26 : decode cX7_keeps 26 = .ok (.iload_n 2, 1) := by decide +kernel
theorem dX7_keeps_27 : decode cX7_keeps 27 = .ok (.imul, 1) := by decide +kernel
theorem dX7_keeps_28 : decode cX7_keeps 28 = .ok (.iadd, 1) := by decide +kernel
theorem dX7_keeps_29 : decode cX7_keeps 29 = .ok (.iconst 1, 1) := by decide +kernel
theorem dX7_keeps_30 : decode cX7_keeps 30 = .ok (.iadd, 1) := by decide +kernel
theorem dX7_keeps_31 : decode cX7_keeps 31 = .ok (.aload_n 1, 1) := by decide +kernel
theorem dX7_keeps_32 : decode cX7_keeps 32 = .ok (.iload_n 3, 1) := by decide +kernel
theorem dX7_keeps_33 : decode cX7_keeps 33 = .ok (.iload_n 3, 1) := by decide +kernel
theorem dX7_keeps_34 : decode cX7_keeps 34 = .ok (.iload_n 3, 1) := by decide +kernel
theorem dX7_keeps_35 : decode cX7_keeps 35 = .ok (.imul, 1) := by decide +kernel
theorem dX7_keeps_36 : decode cX7_keeps 36 = .ok (.invokestatic 191, 3) := by decide +kernel
theorem dX7_keeps_39 : decode cX7_keeps 39 = .ok (.iastore, 1) := by decide +kernel
theorem dX7_keeps_40 : decode cX7_keeps 40 = .ok (.aload_n 0, 1) := by decide +kernel
theorem dX7_keeps_41 : decode cX7_keeps 41 = .ok (.iconst 2, 1) := by decide +kernel
theorem dX7_keeps_42 : decode cX7_keeps 42 = .ok (.iconst 3, 1) := by decide +kernel
theorem dX7_keeps_43 : decode cX7_keeps 43 = .ok (.iload_n 2, 1) := by decide +kernel
theorem dX7_keeps_44 : decode cX7_keeps 44 = .ok (.imul, 1) := by decide +kernel
theorem dX7_keeps_45 : decode cX7_keeps 45 = .ok (.iadd, 1) := by decide +kernel
theorem dX7_keeps_46 : decode cX7_keeps 46 = .ok (.iconst 2, 1) := by decide +kernel
theorem dX7_keeps_47 : decode cX7_keeps 47 = .ok (.iadd, 1) := by decide +kernel
theorem dX7_keeps_48 : decode cX7_keeps 48 = .ok (.aload_n 1, 1) := by decide +kernel
theorem dX7_keeps_49 : decode cX7_keeps 49 = .ok (.iconst 1, 1) := by decide +kernel
theorem dX7_keeps_50 : decode cX7_keeps 50 = .ok (.iload_n 3, 1) := by decide +kernel
theorem dX7_keeps_51 : decode cX7_keeps 51 = .ok (.invokestatic 191, 3) := by decide +kernel
theorem dX7_keeps_54 : decode cX7_keeps 54 = .ok (.iastore, 1) := by decide +kernel
theorem dX7_keeps_55 : decode cX7_keeps 55 = .ok (.return_, 1) := by decide +kernel
theorem dX7_by_0 : decode cX7_by 0 = .ok (.aload_n 0, 1) := by decide +kernel
theorem dX7_by_1 : decode cX7_by 1 = .ok (.getfield 86, 3) := by decide +kernel
theorem dX7_by_4 : decode cX7_by 4 = .ok (.iconst 0, 1) := by decide +kernel
theorem dX7_by_5 : decode cX7_by 5 = .ok (.iaload, 1) := by decide +kernel
theorem dX7_by_6 : decode cX7_by 6 = .ok (.ireturn, 1) := by decide +kernel
theorem dX7_isModuleAt_0 : decode cX7_isModuleAt 0 = .ok (.aload_n 0, 1) := by decide +kernel
theorem dX7_isModuleAt_1 : decode cX7_isModuleAt 1 = .ok (.invokevirtual 195, 3) := by decide +kernel
theorem dX7_isModuleAt_4 : decode cX7_isModuleAt 4 = .ok (.ifCond .le 16, 3) := by decide +kernel
theorem dX7_isModuleAt_7 : decode cX7_isModuleAt 7 = .ok (.iload_n 1, 1) := by decide +kernel
theorem dX7_isModuleAt_8 : decode cX7_isModuleAt 8 = .ok (.iconst 0, 1) := by decide +kernel
theorem dX7_isModuleAt_9 : decode cX7_isModuleAt 9 = .ok (.iconst 3, 1) := by decide +kernel
theorem dX7_isModuleAt_10 : decode cX7_isModuleAt 10 = .ok (.invokestatic 117, 3) := by decide +kernel
theorem dX7_isModuleAt_13 : decode cX7_isModuleAt 13 = .ok (.ifCond .eq 7, 3) := by decide +kernel
theorem dX7_isModuleAt_16 : decode cX7_isModuleAt 16 = .ok (.iconst 1, 1) := by decide +kernel
theorem dX7_isModuleAt_17 : decode cX7_isModuleAt 17 = .ok (.goto 4, 3) := by decide +kernel
theorem dX7_isModuleAt_20 : decode cX7_isModuleAt 20 = .ok (.iconst 0, 1) := by decide +kernel
theorem dX7_isModuleAt_21 : decode cX7_isModuleAt 21 = .ok (.ireturn, 1) := by decide +kernel
theorem dX7_rowOf_0 : decode cX7_rowOf 0 = .ok (.aload_n 0, 1) := by decide +kernel
theorem dX7_rowOf_1 : decode cX7_rowOf 1 = .ok (.invokevirtual 195, 3) := by decide +kernel
theorem dX7_rowOf_4 : decode cX7_rowOf 4 = .ok (.istore 4, 2) := by decide +kernel
theorem dX7_rowOf_6 : decode cX7_rowOf 6 = .ok (.iload_n 1, 1) := by decide +kernel
theorem dX7_rowOf_7 : decode cX7_rowOf 7 = .ok (.iconst 0, 1) := by decide +kernel
theorem dX7_rowOf_8 : decode cX7_rowOf 8 = .ok (.iload 4, 2) := by decide +kernel
theorem dX7_rowOf_10 : decode cX7_rowOf 10 = .ok (.iconst 1, 1) := by decide +kernel
theorem dX7_rowOf_11 : decode cX7_rowOf 11 = .ok (.isub, 1) := by decide +kernel
theorem dX7_rowOf_12 : decode cX7_rowOf 12 = .ok (.invokestatic 117, 3) := by decide +kernel
theorem dX7_rowOf_15 : decode cX7_rowOf 15 = .ok (.ifCond .eq 55, 3) := by decide +kernel
theorem dX7_rowOf_18 : decode cX7_rowOf 18 = .ok (.iload_n 2, 1) := by decide +kernel
theorem dX7_rowOf_19 : decode cX7_rowOf 19 = .ok (.iconst 0, 1) := by decide +kernel
theorem dX7_rowOf_20 : decode cX7_rowOf 20 = .ok (.iload 4, 2) := by decide +kernel
theorem dX7_rowOf_22 : decode cX7_rowOf 22 = .ok (.iconst 1, 1) := by decide +kernel
theorem dX7_rowOf_23 : decode cX7_rowOf 23 = .ok (.isub, 1) := by decide +kernel
theorem dX7_rowOf_24 : decode cX7_rowOf 24 = .ok (.invokestatic 117, 3) := by decide +kernel
theorem dX7_rowOf_27 : decode cX7_rowOf 27 = .ok (.ifCond .eq 43, 3) := by decide +kernel
theorem dX7_rowOf_30 : decode cX7_rowOf 30 = .ok (.iload_n 3, 1) := by decide +kernel
theorem dX7_rowOf_31 : decode cX7_rowOf 31 = .ok (.iconst 0, 1) := by decide +kernel
theorem dX7_rowOf_32 : decode cX7_rowOf 32 = .ok (.iload 4, 2) := by decide +kernel
theorem dX7_rowOf_34 : decode cX7_rowOf 34 = .ok (.iconst 1, 1) := by decide +kernel
theorem dX7_rowOf_35 : decode cX7_rowOf 35 = .ok (.isub, 1) := by decide +kernel
theorem dX7_rowOf_36 : decode cX7_rowOf 36 = .ok (.invokestatic 117, 3) := by decide +kernel
theorem dX7_rowOf_39 : decode cX7_rowOf 39 = .ok (.ifCond .eq 31, 3) := by decide +kernel
theorem dX7_rowOf_42 : decode cX7_rowOf 42 = .ok (.aload_n 0, 1) := by decide +kernel
theorem dX7_rowOf_43 : decode cX7_rowOf 43 = .ok (.getfield 86, 3) := by decide +kernel
theorem dX7_rowOf_46 : decode cX7_rowOf 46 = .ok (.iconst 1, 1) := by decide +kernel
theorem dX7_rowOf_47 : decode cX7_rowOf 47 = .ok (.iaload, 1) := by decide +kernel
theorem dX7_rowOf_48 : decode cX7_rowOf 48 = .ok (.iconst 2, 1) := by decide +kernel
theorem dX7_rowOf_49 : decode cX7_rowOf 49 = .ok (.if_icmp .ge 7, 3) := by decide +kernel
theorem dX7_rowOf_52 : decode cX7_rowOf 52 = .ok (.iload_n 2, 1) := by decide +kernel
theorem dX7_rowOf_53 : decode cX7_rowOf 53 = .ok (.ifCond .gt 17, 3) := by decide +kernel
theorem dX7_rowOf_56 : decode cX7_rowOf 56 = .ok (.aload_n 0, 1) := by decide +kernel
theorem dX7_rowOf_57 : decode cX7_rowOf 57 = .ok (.getfield 86, 3) := by decide +kernel
theorem dX7_rowOf_60 : decode cX7_rowOf 60 = .ok (.iconst 1, 1) := by decide +kernel
theorem dX7_rowOf_61 : decode cX7_rowOf 61 = .ok (.iaload, 1) := by decide +kernel
theorem dX7_rowOf_62 : decode cX7_rowOf 62 = .ok (.iconst 3, 1) := by decide +kernel
theorem dX7_rowOf_63 : decode cX7_rowOf 63 = .ok (.if_icmp .ge 9, 3) := by decide +kernel
theorem dX7_rowOf_66 : decode cX7_rowOf 66 = .ok (.iload_n 3, 1) := by decide +kernel
theorem dX7_rowOf_67 : decode cX7_rowOf 67 = .ok (.ifCond .le 5, 3) := by decide +kernel
theorem dX7_rowOf_70 : decode cX7_rowOf 70 = .ok (.iconst (-1), 1) := by decide +kernel
theorem dX7_rowOf_71 : decode cX7_rowOf 71 = .ok (.ireturn, 1) := by decide +kernel
theorem dX7_rowOf_72 : decode cX7_rowOf 72 = .ok (.iload_n 1, 1) := by decide +kernel
theorem dX7_rowOf_73 : decode cX7_rowOf 73 = .ok (.iload 4, 2) := by decide +kernel
theorem dX7_rowOf_75 : decode cX7_rowOf 75 = .ok (.imul, 1) := by decide +kernel
theorem dX7_rowOf_76 : decode cX7_rowOf 76 = .ok (.iload_n 2, 1) := by decide +kernel
theorem dX7_rowOf_77 : decode cX7_rowOf 77 = .ok (.iadd, 1) := by decide +kernel
theorem dX7_rowOf_78 : decode cX7_rowOf 78 = .ok (.iload 4, 2) := by decide +kernel
theorem dX7_rowOf_80 : decode cX7_rowOf 80 = .ok (.imul, 1) := by decide +kernel
theorem dX7_rowOf_81 : decode cX7_rowOf 81 = .ok (.iload_n 3, 1) := by decide +kernel
theorem dX7_rowOf_82 : decode cX7_rowOf 82 = .ok (.iadd, 1) := by decide +kernel
theorem dX7_rowOf_83 : decode cX7_rowOf 83 = .ok (.ireturn, 1) := by decide +kernel
theorem dX7_toldBack_0 : decode cX7_toldBack 0 = .ok (.aload_n 0, 1) := by decide +kernel
theorem dX7_toldBack_1 : decode cX7_toldBack 1 = .ok (.invokevirtual 195, 3) := by decide +kernel
theorem dX7_toldBack_4 : decode cX7_toldBack 4 = .ok (.istore_n 2, 1) := by decide +kernel
theorem dX7_toldBack_5 : decode cX7_toldBack 5 = .ok (.sipush 10000, 3) := by decide +kernel
theorem dX7_toldBack_8 : decode cX7_toldBack 8 = .ok (.iload_n 1, 1) := by decide +kernel
theorem dX7_toldBack_9 : decode cX7_toldBack 9 = .ok (.iload_n 2, 1) := by decide +kernel
theorem dX7_toldBack_10 : decode cX7_toldBack 10 = .ok (.iload_n 2, 1) := by decide +kernel
theorem dX7_toldBack_11 : decode cX7_toldBack 11 = .ok (.imul, 1) := by decide +kernel
theorem dX7_toldBack_12 : decode cX7_toldBack 12 = .ok (.idiv, 1) := by decide +kernel
theorem dX7_toldBack_13 : decode cX7_toldBack 13 = .ok (.imul, 1) := by decide +kernel
theorem dX7_toldBack_14 : decode cX7_toldBack 14 = .ok (.bipush 100, 2) := by decide +kernel
theorem dX7_toldBack_16 : decode cX7_toldBack 16 = .ok (.iload_n 1, 1) := by decide +kernel
theorem dX7_toldBack_17 : decode cX7_toldBack 17 = .ok (.iload_n 2, 1) := by decide +kernel
theorem dX7_toldBack_18 : decode cX7_toldBack 18 = .ok (.idiv, 1) := by decide +kernel
theorem dX7_toldBack_19 : decode cX7_toldBack 19 = .ok (.iload_n 2, 1) := by decide +kernel
theorem dX7_toldBack_20 : decode cX7_toldBack 20 = .ok (.irem, 1) := by decide +kernel
theorem dX7_toldBack_21 : decode cX7_toldBack 21 = .ok (.imul, 1) := by decide +kernel
theorem dX7_toldBack_22 : decode cX7_toldBack 22 = .ok (.iadd, 1) := by decide +kernel
theorem dX7_toldBack_23 : decode cX7_toldBack 23 = .ok (.iload_n 1, 1) := by decide +kernel
theorem dX7_toldBack_24 : decode cX7_toldBack 24 = .ok (.iload_n 2, 1) := by decide +kernel
theorem dX7_toldBack_25 : decode cX7_toldBack 25 = .ok (.irem, 1) := by decide +kernel
theorem dX7_toldBack_26 : decode cX7_toldBack 26 = .ok (.iadd, 1) := by decide +kernel
theorem dX7_toldBack_27 : decode cX7_toldBack 27 = .ok (.ireturn, 1) := by decide +kernel
theorem dX7_now_0 : decode cX7_now 0 = .ok (.aload_n 0, 1) := by decide +kernel
theorem dX7_now_1 : decode cX7_now 1 = .ok (.iconst 0, 1) := by decide +kernel
theorem dX7_now_2 : decode cX7_now 2 = .ok (.putfield 1, 3) := by decide +kernel
theorem dX7_now_5 : decode cX7_now 5 = .ok (.iload_n 1, 1) := by decide +kernel
theorem dX7_now_6 : decode cX7_now 6 = .ok (.tableswitch 64 0 4 #[34, 39, 46, 54, 59], 34) := by decide +kernel
theorem dX7_now_40 : decode cX7_now 40 = .ok (.aload_n 0, 1) := by decide +kernel
theorem dX7_now_41 : decode cX7_now 41 = .ok (.invokevirtual 195, 3) := by decide +kernel
theorem dX7_now_44 : decode cX7_now 44 = .ok (.ireturn, 1) := by decide +kernel
theorem dX7_now_45 : decode cX7_now 45 = .ok (.aload_n 0, 1) := by decide +kernel
theorem dX7_now_46 : decode cX7_now 46 = .ok (.getfield 86, 3) := by decide +kernel
theorem dX7_now_49 : decode cX7_now 49 = .ok (.iconst 1, 1) := by decide +kernel
theorem dX7_now_50 : decode cX7_now 50 = .ok (.iaload, 1) := by decide +kernel
theorem dX7_now_51 : decode cX7_now 51 = .ok (.ireturn, 1) := by decide +kernel
theorem dX7_now_52 : decode cX7_now 52 = .ok (.aload_n 0, 1) := by decide +kernel
theorem dX7_now_53 : decode cX7_now 53 = .ok (.getfield 86, 3) := by decide +kernel
theorem dX7_now_56 : decode cX7_now 56 = .ok (.bipush 14, 2) := by decide +kernel
theorem dX7_now_58 : decode cX7_now 58 = .ok (.iaload, 1) := by decide +kernel
theorem dX7_now_59 : decode cX7_now 59 = .ok (.ireturn, 1) := by decide +kernel
theorem dX7_now_60 : decode cX7_now 60 = .ok (.aload_n 0, 1) := by decide +kernel
theorem dX7_now_61 : decode cX7_now 61 = .ok (.getfield 177, 3) := by decide +kernel
theorem dX7_now_64 : decode cX7_now 64 = .ok (.ireturn, 1) := by decide +kernel
theorem dX7_now_65 : decode cX7_now 65 = .ok (.aload_n 0, 1) := by decide +kernel
theorem dX7_now_66 : decode cX7_now 66 = .ok (.getfield 11, 3) := by decide +kernel
theorem dX7_now_69 : decode cX7_now 69 = .ok (.ireturn, 1) := by decide +kernel
theorem dX7_now_70 : decode cX7_now 70 = .ok (.iconst (-1), 1) := by decide +kernel
theorem dX7_now_71 : decode cX7_now 71 = .ok (.ireturn, 1) := by decide +kernel
theorem dX7_lead_0 : decode cX7_lead 0 = .ok (.aload_n 0, 1) := by decide +kernel
theorem dX7_lead_1 : decode cX7_lead 1 = .ok (.iconst 0, 1) := by decide +kernel
theorem dX7_lead_2 : decode cX7_lead 2 = .ok (.putfield 1, 3) := by decide +kernel
theorem dX7_lead_5 : decode cX7_lead 5 = .ok (.aload_n 0, 1) := by decide +kernel
theorem dX7_lead_6 : decode cX7_lead 6 = .ok (.iload_n 1, 1) := by decide +kernel
theorem dX7_lead_7 : decode cX7_lead 7 = .ok (.invokevirtual 199, 3) := by decide +kernel
theorem dX7_lead_10 : decode cX7_lead 10 = .ok (.ifCond .eq 19, 3) := by decide +kernel
theorem dX7_lead_13 : decode cX7_lead 13 = .ok (.iload_n 2, 1) := by decide +kernel
theorem dX7_lead_14 : decode cX7_lead 14 = .ok (.iconst 0, 1) := by decide +kernel
theorem dX7_lead_15 : decode cX7_lead 15 = .ok (.aload_n 0, 1) := by decide +kernel
theorem dX7_lead_16 : decode cX7_lead 16 = .ok (.getfield 86, 3) := by decide +kernel
theorem dX7_lead_19 : decode cX7_lead 19 = .ok (.iconst 1, 1) := by decide +kernel
theorem dX7_lead_20 : decode cX7_lead 20 = .ok (.iaload, 1) := by decide +kernel
theorem dX7_lead_21 : decode cX7_lead 21 = .ok (.iconst 1, 1) := by decide +kernel
theorem dX7_lead_22 : decode cX7_lead 22 = .ok (.isub, 1) := by decide +kernel
theorem dX7_lead_23 : decode cX7_lead 23 = .ok (.invokestatic 117, 3) := by decide +kernel
theorem dX7_lead_26 : decode cX7_lead 26 = .ok (.ifCond .ne 5, 3) := by decide +kernel
theorem dX7_lead_29 : decode cX7_lead 29 = .ok (.iconst (-1), 1) := by decide +kernel
theorem dX7_lead_30 : decode cX7_lead 30 = .ok (.ireturn, 1) := by decide +kernel
theorem dX7_lead_31 : decode cX7_lead 31 = .ok (.aload_n 0, 1) := by decide +kernel
theorem dX7_lead_32 : decode cX7_lead 32 = .ok (.getfield 86, 3) := by decide +kernel
theorem dX7_lead_35 : decode cX7_lead 35 = .ok (.iconst 2, 1) := by decide +kernel
theorem dX7_lead_36 : decode cX7_lead 36 = .ok (.iconst 3, 1) := by decide +kernel
theorem dX7_lead_37 : decode cX7_lead 37 = .ok (.iload_n 1, 1) := by decide +kernel
theorem dX7_lead_38 : decode cX7_lead 38 = .ok (.imul, 1) := by decide +kernel
theorem dX7_lead_39 : decode cX7_lead 39 = .ok (.iadd, 1) := by decide +kernel
theorem dX7_lead_40 : decode cX7_lead 40 = .ok (.iload_n 2, 1) := by decide +kernel
theorem dX7_lead_41 : decode cX7_lead 41 = .ok (.iadd, 1) := by decide +kernel
theorem dX7_lead_42 : decode cX7_lead 42 = .ok (.iaload, 1) := by decide +kernel
theorem dX7_lead_43 : decode cX7_lead 43 = .ok (.istore_n 3, 1) := by decide +kernel
theorem dX7_lead_44 : decode cX7_lead 44 = .ok (.aload_n 0, 1) := by decide +kernel
theorem dX7_lead_45 : decode cX7_lead 45 = .ok (.invokevirtual 195, 3) := by decide +kernel
theorem dX7_lead_48 : decode cX7_lead 48 = .ok (.istore 4, 2) := by decide +kernel
theorem dX7_lead_50 : decode cX7_lead 50 = .ok (.iload_n 2, 1) := by decide +kernel
theorem dX7_lead_51 : decode cX7_lead 51 = .ok (.ifCond .ne 13, 3) := by decide +kernel
theorem dX7_lead_54 : decode cX7_lead 54 = .ok (.iload_n 3, 1) := by decide +kernel
theorem dX7_lead_55 : decode cX7_lead 55 = .ok (.iload 4, 2) := by decide +kernel
theorem dX7_lead_57 : decode cX7_lead 57 = .ok (.iload 4, 2) := by decide +kernel
theorem dX7_lead_59 : decode cX7_lead 59 = .ok (.imul, 1) := by decide +kernel
theorem dX7_lead_60 : decode cX7_lead 60 = .ok (.idiv, 1) := by decide +kernel
theorem dX7_lead_61 : decode cX7_lead 61 = .ok (.goto 16, 3) := by decide +kernel
theorem dX7_lead_64 : decode cX7_lead 64 = .ok (.iload_n 2, 1) := by decide +kernel
theorem dX7_lead_65 : decode cX7_lead 65 = .ok (.iconst 1, 1) := by decide +kernel
theorem dX7_lead_66 : decode cX7_lead 66 = .ok (.if_icmp .ne 10, 3) := by decide +kernel
theorem dX7_lead_69 : decode cX7_lead 69 = .ok (.iload_n 3, 1) := by decide +kernel
theorem dX7_lead_70 : decode cX7_lead 70 = .ok (.iload 4, 2) := by decide +kernel
theorem dX7_lead_72 : decode cX7_lead 72 = .ok (.idiv, 1) := by decide +kernel
theorem dX7_lead_73 : decode cX7_lead 73 = .ok (.goto 4, 3) := by decide +kernel
theorem dX7_lead_76 : decode cX7_lead 76 = .ok (.iload_n 3, 1) := by decide +kernel
theorem dX7_lead_77 : decode cX7_lead 77 = .ok (.ireturn, 1) := by decide +kernel
theorem dX7_form_0 : decode cX7_form 0 = .ok (.aload_n 0, 1) := by decide +kernel
theorem dX7_form_1 : decode cX7_form 1 = .ok (.iconst 0, 1) := by decide +kernel
theorem dX7_form_2 : decode cX7_form 2 = .ok (.putfield 1, 3) := by decide +kernel
theorem dX7_form_5 : decode cX7_form 5 = .ok (.aload_n 0, 1) := by decide +kernel
theorem dX7_form_6 : decode cX7_form 6 = .ok (.iload_n 1, 1) := by decide +kernel
theorem dX7_form_7 : decode cX7_form 7 = .ok (.invokevirtual 199, 3) := by decide +kernel
theorem dX7_form_10 : decode cX7_form 10 = .ok (.ifCond .eq 34, 3) := by decide +kernel
theorem dX7_form_13 : decode cX7_form 13 = .ok (.iload_n 2, 1) := by decide +kernel
theorem dX7_form_14 : decode cX7_form 14 = .ok (.iconst 0, 1) := by decide +kernel
theorem dX7_form_15 : decode cX7_form 15 = .ok (.aload_n 0, 1) := by decide +kernel
theorem dX7_form_16 : decode cX7_form 16 = .ok (.getfield 86, 3) := by decide +kernel
theorem dX7_form_19 : decode cX7_form 19 = .ok (.iconst 1, 1) := by decide +kernel
theorem dX7_form_20 : decode cX7_form 20 = .ok (.iaload, 1) := by decide +kernel
theorem dX7_form_21 : decode cX7_form 21 = .ok (.iconst 1, 1) := by decide +kernel
theorem dX7_form_22 : decode cX7_form 22 = .ok (.isub, 1) := by decide +kernel
theorem dX7_form_23 : decode cX7_form 23 = .ok (.invokestatic 117, 3) := by decide +kernel
theorem dX7_form_26 : decode cX7_form 26 = .ok (.ifCond .eq 18, 3) := by decide +kernel
theorem dX7_form_29 : decode cX7_form 29 = .ok (.aload_n 0, 1) := by decide +kernel
theorem dX7_form_30 : decode cX7_form 30 = .ok (.getfield 86, 3) := by decide +kernel
theorem dX7_form_33 : decode cX7_form 33 = .ok (.iconst 2, 1) := by decide +kernel
theorem dX7_form_34 : decode cX7_form 34 = .ok (.iconst 3, 1) := by decide +kernel
theorem dX7_form_35 : decode cX7_form 35 = .ok (.iload_n 1, 1) := by decide +kernel
theorem dX7_form_36 : decode cX7_form 36 = .ok (.imul, 1) := by decide +kernel
theorem dX7_form_37 : decode cX7_form 37 = .ok (.iadd, 1) := by decide +kernel
theorem dX7_form_38 : decode cX7_form 38 = .ok (.iload_n 2, 1) := by decide +kernel
theorem dX7_form_39 : decode cX7_form 39 = .ok (.iadd, 1) := by decide +kernel
theorem dX7_form_40 : decode cX7_form 40 = .ok (.iaload, 1) := by decide +kernel
theorem dX7_form_41 : decode cX7_form 41 = .ok (.ifCond .ne 5, 3) := by decide +kernel
theorem dX7_form_44 : decode cX7_form 44 = .ok (.iconst (-1), 1) := by decide +kernel
theorem dX7_form_45 : decode cX7_form 45 = .ok (.ireturn, 1) := by decide +kernel
theorem dX7_form_46 : decode cX7_form 46 = .ok (.aload_n 0, 1) := by decide +kernel
theorem dX7_form_47 : decode cX7_form 47 = .ok (.aload_n 0, 1) := by decide +kernel
theorem dX7_form_48 : decode cX7_form 48 = .ok (.getfield 86, 3) := by decide +kernel
theorem dX7_form_51 : decode cX7_form 51 = .ok (.iconst 2, 1) := by decide +kernel
theorem dX7_form_52 : decode cX7_form 52 = .ok (.iconst 3, 1) := by decide +kernel
theorem dX7_form_53 : decode cX7_form 53 = .ok (.iload_n 1, 1) := by decide +kernel
theorem dX7_form_54 : decode cX7_form 54 = .ok (.imul, 1) := by decide +kernel
theorem dX7_form_55 : decode cX7_form 55 = .ok (.iadd, 1) := by decide +kernel
theorem dX7_form_56 : decode cX7_form 56 = .ok (.iload_n 2, 1) := by decide +kernel
theorem dX7_form_57 : decode cX7_form 57 = .ok (.iadd, 1) := by decide +kernel
theorem dX7_form_58 : decode cX7_form 58 = .ok (.iaload, 1) := by decide +kernel
theorem dX7_form_59 : decode cX7_form 59 = .ok (.invokevirtual 202, 3) := by decide +kernel
theorem dX7_form_62 : decode cX7_form 62 = .ok (.ireturn, 1) := by decide +kernel
theorem dX7_sizeOf_0 : decode cX7_sizeOf 0 = .ok (.aload_n 0, 1) := by decide +kernel
theorem dX7_sizeOf_1 : decode cX7_sizeOf 1 = .ok (.aload_n 0, 1) := by decide +kernel
theorem dX7_sizeOf_2 : decode cX7_sizeOf 2 = .ok (.getfield 86, 3) := by decide +kernel
theorem dX7_sizeOf_5 : decode cX7_sizeOf 5 = .ok (.iload_n 1, 1) := by decide +kernel
theorem dX7_sizeOf_6 : decode cX7_sizeOf 6 = .ok (.aload_n 0, 1) := by decide +kernel
theorem dX7_sizeOf_7 : decode cX7_sizeOf 7 = .ok (.getfield 102, 3) := by decide +kernel
theorem dX7_sizeOf_10 : decode cX7_sizeOf 10 = .ok (.invokevirtual 128, 3) := by decide +kernel
theorem dX7_sizeOf_13 : decode cX7_sizeOf 13 = .ok (.aload_n 0, 1) := by decide +kernel
theorem dX7_sizeOf_14 : decode cX7_sizeOf 14 = .ok (.getfield 180, 3) := by decide +kernel
theorem dX7_sizeOf_17 : decode cX7_sizeOf 17 = .ok (.ireturn, 1) := by decide +kernel
theorem dX7_many_0 : decode cX7_many 0 = .ok (.aload_n 0, 1) := by decide +kernel
theorem dX7_many_1 : decode cX7_many 1 = .ok (.iconst 0, 1) := by decide +kernel
theorem dX7_many_2 : decode cX7_many 2 = .ok (.putfield 1, 3) := by decide +kernel
theorem dX7_many_5 : decode cX7_many 5 = .ok (.aload_n 0, 1) := by decide +kernel
theorem dX7_many_6 : decode cX7_many 6 = .ok (.iload_n 1, 1) := by decide +kernel
theorem dX7_many_7 : decode cX7_many 7 = .ok (.invokevirtual 199, 3) := by decide +kernel
theorem dX7_many_10 : decode cX7_many 10 = .ok (.ifCond .eq 11, 3) := by decide +kernel
theorem dX7_many_13 : decode cX7_many 13 = .ok (.aload_n 0, 1) := by decide +kernel
theorem dX7_many_14 : decode cX7_many 14 = .ok (.iload_n 1, 1) := by decide +kernel
theorem dX7_many_15 : decode cX7_many 15 = .ok (.invokevirtual 205, 3) := by decide +kernel
theorem dX7_many_18 : decode cX7_many 18 = .ok (.goto 4, 3) := by decide +kernel
theorem dX7_many_21 : decode cX7_many 21 = .ok (.iconst (-1), 1) := by decide +kernel
theorem dX7_many_22 : decode cX7_many 22 = .ok (.ireturn, 1) := by decide +kernel
theorem dX7_row_0 : decode cX7_row 0 = .ok (.aload_n 0, 1) := by decide +kernel
theorem dX7_row_1 : decode cX7_row 1 = .ok (.iconst 0, 1) := by decide +kernel
theorem dX7_row_2 : decode cX7_row 2 = .ok (.putfield 1, 3) := by decide +kernel
theorem dX7_row_5 : decode cX7_row 5 = .ok (.aload_n 0, 1) := by decide +kernel
theorem dX7_row_6 : decode cX7_row 6 = .ok (.iload_n 1, 1) := by decide +kernel
theorem dX7_row_7 : decode cX7_row 7 = .ok (.invokevirtual 199, 3) := by decide +kernel
theorem dX7_row_10 : decode cX7_row 10 = .ok (.ifCond .eq 16, 3) := by decide +kernel
theorem dX7_row_13 : decode cX7_row 13 = .ok (.iload_n 2, 1) := by decide +kernel
theorem dX7_row_14 : decode cX7_row 14 = .ok (.ifCond .lt 12, 3) := by decide +kernel
theorem dX7_row_17 : decode cX7_row 17 = .ok (.iload_n 2, 1) := by decide +kernel
theorem dX7_row_18 : decode cX7_row 18 = .ok (.aload_n 0, 1) := by decide +kernel
theorem dX7_row_19 : decode cX7_row 19 = .ok (.iload_n 1, 1) := by decide +kernel
theorem dX7_row_20 : decode cX7_row 20 = .ok (.invokevirtual 205, 3) := by decide +kernel
theorem dX7_row_23 : decode cX7_row 23 = .ok (.if_icmp .lt 8, 3) := by decide +kernel
theorem dX7_row_26 : decode cX7_row 26 = .ok (.aload_n 0, 1) := by decide +kernel
theorem dX7_row_27 : decode cX7_row 27 = .ok (.invokevirtual 208, 3) := by decide +kernel
theorem dX7_row_30 : decode cX7_row 30 = .ok (.ireturn, 1) := by decide +kernel
theorem dX7_row_31 : decode cX7_row 31 = .ok (.iload_n 2, 1) := by decide +kernel
theorem dX7_row_32 : decode cX7_row 32 = .ok (.istore_n 3, 1) := by decide +kernel
theorem dX7_row_33 : decode cX7_row 33 = .ok (.iconst 0, 1) := by decide +kernel
theorem dX7_row_34 : decode cX7_row 34 = .ok (.istore 4, 2) := by decide +kernel
theorem dX7_row_36 : decode cX7_row 36 = .ok (.aload_n 0, 1) := by decide +kernel
theorem dX7_row_37 : decode cX7_row 37 = .ok (.getfield 102, 3) := by decide +kernel
theorem dX7_row_40 : decode cX7_row 40 = .ok (.iload 4, 2) := by decide +kernel
theorem dX7_row_42 : decode cX7_row 42 = .ok (.baload, 1) := by decide +kernel
theorem dX7_row_43 : decode cX7_row 43 = .ok (.ifCond .eq 7, 3) := by decide +kernel
theorem dX7_row_46 : decode cX7_row 46 = .ok (.iload_n 3, 1) := by decide +kernel
theorem dX7_row_47 : decode cX7_row 47 = .ok (.ifCond .le 22, 3) := by decide +kernel
theorem dX7_row_50 : decode cX7_row 50 = .ok (.aload_n 0, 1) := by decide +kernel
theorem dX7_row_51 : decode cX7_row 51 = .ok (.getfield 102, 3) := by decide +kernel
theorem dX7_row_54 : decode cX7_row 54 = .ok (.iload 4, 2) := by decide +kernel
theorem dX7_row_56 : decode cX7_row 56 = .ok (.baload, 1) := by decide +kernel
theorem dX7_row_57 : decode cX7_row 57 = .ok (.ifCond .eq 6, 3) := by decide +kernel
theorem dX7_row_60 : decode cX7_row 60 = .ok (.iinc 3 (-1), 3) := by decide +kernel
theorem dX7_row_63 : decode cX7_row 63 = .ok (.iinc 4 1, 3) := by decide +kernel
theorem dX7_row_66 : decode cX7_row 66 = .ok (.goto (-30), 3) := by decide +kernel
theorem dX7_row_69 : decode cX7_row 69 = .ok (.aload_n 0, 1) := by decide +kernel
theorem dX7_row_70 : decode cX7_row 70 = .ok (.iload 4, 2) := by decide +kernel
theorem dX7_row_72 : decode cX7_row 72 = .ok (.invokevirtual 202, 3) := by decide +kernel
theorem dX7_row_75 : decode cX7_row 75 = .ok (.ireturn, 1) := by decide +kernel
theorem dX7_rank_0 : decode cX7_rank 0 = .ok (.aload_n 0, 1) := by decide +kernel
theorem dX7_rank_1 : decode cX7_rank 1 = .ok (.iconst 0, 1) := by decide +kernel
theorem dX7_rank_2 : decode cX7_rank 2 = .ok (.putfield 1, 3) := by decide +kernel
theorem dX7_rank_5 : decode cX7_rank 5 = .ok (.aload_n 0, 1) := by decide +kernel
theorem dX7_rank_6 : decode cX7_rank 6 = .ok (.iload_n 1, 1) := by decide +kernel
theorem dX7_rank_7 : decode cX7_rank 7 = .ok (.invokevirtual 199, 3) := by decide +kernel
theorem dX7_rank_10 : decode cX7_rank 10 = .ok (.ifCond .eq 15, 3) := by decide +kernel
theorem dX7_rank_13 : decode cX7_rank 13 = .ok (.aload_n 0, 1) := by decide +kernel
theorem dX7_rank_14 : decode cX7_rank 14 = .ok (.iload_n 2, 1) := by decide +kernel
theorem dX7_rank_15 : decode cX7_rank 15 = .ok (.iload_n 3, 1) := by decide +kernel
theorem dX7_rank_16 : decode cX7_rank 16 = .ok (.iload 4, 2) := by decide +kernel
theorem dX7_rank_18 : decode cX7_rank 18 = .ok (.invokevirtual 211, 3) := by decide +kernel
theorem dX7_rank_21 : decode cX7_rank 21 = .ok (.iconst (-1), 1) := by decide +kernel
theorem dX7_rank_22 : decode cX7_rank 22 = .ok (.if_icmp .ne 5, 3) := by decide +kernel
theorem dX7_rank_25 : decode cX7_rank 25 = .ok (.iconst (-1), 1) := by decide +kernel
theorem dX7_rank_26 : decode cX7_rank 26 = .ok (.ireturn, 1) := by decide +kernel
theorem dX7_rank_27 : decode cX7_rank 27 = .ok (.aload_n 0, 1) := by decide +kernel
theorem dX7_rank_28 : decode cX7_rank 28 = .ok (.aload_n 0, 1) := by decide +kernel
theorem dX7_rank_29 : decode cX7_rank 29 = .ok (.getfield 86, 3) := by decide +kernel
theorem dX7_rank_32 : decode cX7_rank 32 = .ok (.iload_n 1, 1) := by decide +kernel
theorem dX7_rank_33 : decode cX7_rank 33 = .ok (.aload_n 0, 1) := by decide +kernel
theorem dX7_rank_34 : decode cX7_rank 34 = .ok (.getfield 102, 3) := by decide +kernel
theorem dX7_rank_37 : decode cX7_rank 37 = .ok (.invokevirtual 128, 3) := by decide +kernel
theorem dX7_rank_40 : decode cX7_rank 40 = .ok (.aload_n 0, 1) := by decide +kernel
theorem dX7_rank_41 : decode cX7_rank 41 = .ok (.iload_n 2, 1) := by decide +kernel
theorem dX7_rank_42 : decode cX7_rank 42 = .ok (.iload_n 3, 1) := by decide +kernel
theorem dX7_rank_43 : decode cX7_rank 43 = .ok (.iload 4, 2) := by decide +kernel
theorem dX7_rank_45 : decode cX7_rank 45 = .ok (.invokevirtual 211, 3) := by decide +kernel
theorem dX7_rank_48 : decode cX7_rank 48 = .ok (.istore 5, 2) := by decide +kernel
theorem dX7_rank_50 : decode cX7_rank 50 = .ok (.aload_n 0, 1) := by decide +kernel
theorem dX7_rank_51 : decode cX7_rank 51 = .ok (.getfield 102, 3) := by decide +kernel
theorem dX7_rank_54 : decode cX7_rank 54 = .ok (.iload 5, 2) := by decide +kernel
theorem dX7_rank_56 : decode cX7_rank 56 = .ok (.baload, 1) := by decide +kernel
theorem dX7_rank_57 : decode cX7_rank 57 = .ok (.ifCond .ne 5, 3) := by decide +kernel
theorem dX7_rank_60 : decode cX7_rank 60 = .ok (.iconst (-1), 1) := by decide +kernel
theorem dX7_rank_61 : decode cX7_rank 61 = .ok (.ireturn, 1) := by decide +kernel
theorem dX7_rank_62 : decode cX7_rank 62 = .ok (.iconst 0, 1) := by decide +kernel
theorem dX7_rank_63 : decode cX7_rank 63 = .ok (.istore 6, 2) := by decide +kernel
theorem dX7_rank_65 : decode cX7_rank 65 = .ok (.iconst 0, 1) := by decide +kernel
theorem dX7_rank_66 : decode cX7_rank 66 = .ok (.istore 7, 2) := by decide +kernel
theorem dX7_rank_68 : decode cX7_rank 68 = .ok (.iload 7, 2) := by decide +kernel
theorem dX7_rank_70 : decode cX7_rank 70 = .ok (.iload 5, 2) := by decide +kernel
theorem dX7_rank_72 : decode cX7_rank 72 = .ok (.if_icmp .ge 22, 3) := by decide +kernel
theorem dX7_rank_75 : decode cX7_rank 75 = .ok (.aload_n 0, 1) := by decide +kernel
theorem dX7_rank_76 : decode cX7_rank 76 = .ok (.getfield 102, 3) := by decide +kernel
theorem dX7_rank_79 : decode cX7_rank 79 = .ok (.iload 7, 2) := by decide +kernel
theorem dX7_rank_81 : decode cX7_rank 81 = .ok (.baload, 1) := by decide +kernel
theorem dX7_rank_82 : decode cX7_rank 82 = .ok (.ifCond .eq 6, 3) := by decide +kernel
theorem dX7_rank_85 : decode cX7_rank 85 = .ok (.iinc 6 1, 3) := by decide +kernel
theorem dX7_rank_88 : decode cX7_rank 88 = .ok (.iinc 7 1, 3) := by decide +kernel
theorem dX7_rank_91 : decode cX7_rank 91 = .ok (.goto (-23), 3) := by decide +kernel
theorem dX7_rank_94 : decode cX7_rank 94 = .ok (.iload 6, 2) := by decide +kernel
theorem dX7_rank_96 : decode cX7_rank 96 = .ok (.ireturn, 1) := by decide +kernel
theorem dX7_beside_0 : decode cX7_beside 0 = .ok (.aload_n 0, 1) := by decide +kernel
theorem dX7_beside_1 : decode cX7_beside 1 = .ok (.iconst 0, 1) := by decide +kernel
theorem dX7_beside_2 : decode cX7_beside 2 = .ok (.putfield 1, 3) := by decide +kernel
theorem dX7_beside_5 : decode cX7_beside 5 = .ok (.aload_n 0, 1) := by decide +kernel
theorem dX7_beside_6 : decode cX7_beside 6 = .ok (.iload_n 1, 1) := by decide +kernel
theorem dX7_beside_7 : decode cX7_beside 7 = .ok (.invokevirtual 199, 3) := by decide +kernel
theorem dX7_beside_10 : decode cX7_beside 10 = .ok (.ifCond .eq 15, 3) := by decide +kernel
theorem dX7_beside_13 : decode cX7_beside 13 = .ok (.aload_n 0, 1) := by decide +kernel
theorem dX7_beside_14 : decode cX7_beside 14 = .ok (.iload_n 2, 1) := by decide +kernel
theorem dX7_beside_15 : decode cX7_beside 15 = .ok (.iload_n 3, 1) := by decide +kernel
theorem dX7_beside_16 : decode cX7_beside 16 = .ok (.iload 4, 2) := by decide +kernel
theorem dX7_beside_18 : decode cX7_beside 18 = .ok (.invokevirtual 211, 3) := by decide +kernel
theorem dX7_beside_21 : decode cX7_beside 21 = .ok (.iconst (-1), 1) := by decide +kernel
theorem dX7_beside_22 : decode cX7_beside 22 = .ok (.if_icmp .ne 5, 3) := by decide +kernel
theorem dX7_beside_25 : decode cX7_beside 25 = .ok (.iconst (-1), 1) := by decide +kernel
theorem dX7_beside_26 : decode cX7_beside 26 = .ok (.ireturn, 1) := by decide +kernel
theorem dX7_beside_27 : decode cX7_beside 27 = .ok (.aload_n 0, 1) := by decide +kernel
theorem dX7_beside_28 : decode cX7_beside 28 = .ok (.aload_n 0, 1) := by decide +kernel
theorem dX7_beside_29 : decode cX7_beside 29 = .ok (.getfield 86, 3) := by decide +kernel
theorem dX7_beside_32 : decode cX7_beside 32 = .ok (.iload_n 1, 1) := by decide +kernel
theorem dX7_beside_33 : decode cX7_beside 33 = .ok (.aload_n 0, 1) := by decide +kernel
theorem dX7_beside_34 : decode cX7_beside 34 = .ok (.getfield 102, 3) := by decide +kernel
theorem dX7_beside_37 : decode cX7_beside 37 = .ok (.invokevirtual 128, 3) := by decide +kernel
theorem dX7_beside_40 : decode cX7_beside 40 = .ok (.aload_n 0, 1) := by decide +kernel
theorem dX7_beside_41 : decode cX7_beside 41 = .ok (.iload_n 2, 1) := by decide +kernel
theorem dX7_beside_42 : decode cX7_beside 42 = .ok (.iload_n 3, 1) := by decide +kernel
theorem dX7_beside_43 : decode cX7_beside 43 = .ok (.iload 4, 2) := by decide +kernel
theorem dX7_beside_45 : decode cX7_beside 45 = .ok (.invokevirtual 211, 3) := by decide +kernel
theorem dX7_beside_48 : decode cX7_beside 48 = .ok (.istore 5, 2) := by decide +kernel
theorem dX7_beside_50 : decode cX7_beside 50 = .ok (.iconst 0, 1) := by decide +kernel
theorem dX7_beside_51 : decode cX7_beside 51 = .ok (.istore 6, 2) := by decide +kernel
theorem dX7_beside_53 : decode cX7_beside 53 = .ok (.iload 6, 2) := by decide +kernel
theorem dX7_beside_55 : decode cX7_beside 55 = .ok (.aload_n 0, 1) := by decide +kernel
theorem dX7_beside_56 : decode cX7_beside 56 = .ok (.getfield 180, 3) := by decide +kernel
theorem dX7_beside_59 : decode cX7_beside 59 = .ok (.if_icmp .ge 44, 3) := by decide +kernel
theorem dX7_beside_62 : decode cX7_beside 62 = .ok (.aload_n 0, 1) := by decide +kernel
theorem dX7_beside_63 : decode cX7_beside 63 = .ok (.iload_n 2, 1) := by decide +kernel
theorem dX7_beside_64 : decode cX7_beside 64 = .ok (.iload_n 3, 1) := by decide +kernel
theorem dX7_beside_65 : decode cX7_beside 65 = .ok (.iload 4, 2) := by decide +kernel
theorem dX7_beside_67 : decode cX7_beside 67 = .ok (.invokevirtual 211, 3) := by decide +kernel
theorem dX7_beside_70 : decode cX7_beside 70 = .ok (.aload_n 0, 1) := by decide +kernel
theorem dX7_beside_71 : decode cX7_beside 71 = .ok (.getfield 108, 3) := by decide +kernel
theorem dX7_beside_74 : decode cX7_beside 74 = .ok (.iload 6, 2) := by decide +kernel
theorem dX7_beside_76 : decode cX7_beside 76 = .ok (.iaload, 1) := by decide +kernel
theorem dX7_beside_77 : decode cX7_beside 77 = .ok (.aload_n 0, 1) := by decide +kernel
theorem dX7_beside_78 : decode cX7_beside 78 = .ok (.invokevirtual 195, 3) := by decide +kernel
theorem dX7_beside_81 : decode cX7_beside 81 = .ok (.invokestatic 183, 3) := by decide +kernel
theorem dX7_beside_84 : decode cX7_beside 84 = .ok (.istore 7, 2) := by decide +kernel
theorem dX7_beside_86 : decode cX7_beside 86 = .ok (.iload 7, 2) := by decide +kernel
theorem dX7_beside_88 : decode cX7_beside 88 = .ok (.iload 5, 2) := by decide +kernel
theorem dX7_beside_90 : decode cX7_beside 90 = .ok (.if_icmp .ge 7, 3) := by decide +kernel
theorem dX7_beside_93 : decode cX7_beside 93 = .ok (.iload 7, 2) := by decide +kernel
theorem dX7_beside_95 : decode cX7_beside 95 = .ok (.istore 5, 2) := by decide +kernel
theorem dX7_beside_97 : decode cX7_beside 97 = .ok (.iinc 6 1, 3) := by decide +kernel
theorem dX7_beside_100 : decode cX7_beside 100 = .ok (.goto (-47), 3) := by decide +kernel
theorem dX7_beside_103 : decode cX7_beside 103 = .ok (.aload_n 0, 1) := by decide +kernel
theorem dX7_beside_104 : decode cX7_beside 104 = .ok (.iload 5, 2) := by decide +kernel
theorem dX7_beside_106 : decode cX7_beside 106 = .ok (.invokevirtual 202, 3) := by decide +kernel
theorem dX7_beside_109 : decode cX7_beside 109 = .ok (.ireturn, 1) := by decide +kernel
theorem dX7_manyTimes_0 : decode cX7_manyTimes 0 = .ok (.iconst 0, 1) := by decide +kernel
theorem dX7_manyTimes_1 : decode cX7_manyTimes 1 = .ok (.istore_n 2, 1) := by decide +kernel
theorem dX7_manyTimes_2 : decode cX7_manyTimes 2 = .ok (.iload_n 2, 1) := by decide +kernel
theorem dX7_manyTimes_3 : decode cX7_manyTimes 3 = .ok (.sipush 27000, 3) := by decide +kernel
theorem dX7_manyTimes_6 : decode cX7_manyTimes 6 = .ok (.if_icmp .ge 16, 3) := by decide +kernel
theorem dX7_manyTimes_9 : decode cX7_manyTimes 9 = .ok (.aload_n 0, 1) := by decide +kernel
theorem dX7_manyTimes_10 : decode cX7_manyTimes 10 = .ok (.getfield 105, 3) := by decide +kernel
theorem dX7_manyTimes_13 : decode cX7_manyTimes 13 = .ok (.iload_n 2, 1) := by decide +kernel
theorem dX7_manyTimes_14 : decode cX7_manyTimes 14 = .ok (.iconst 0, 1) := by decide +kernel
theorem dX7_manyTimes_15 : decode cX7_manyTimes 15 = .ok (.bastore, 1) := by decide +kernel
theorem dX7_manyTimes_16 : decode cX7_manyTimes 16 = .ok (.iinc 2 1, 3) := by decide +kernel
theorem dX7_manyTimes_19 : decode cX7_manyTimes 19 = .ok (.goto (-17), 3) := by decide +kernel
theorem dX7_manyTimes_22 : decode cX7_manyTimes 22 = .ok (.iconst 0, 1) := by decide +kernel
theorem dX7_manyTimes_23 : decode cX7_manyTimes 23 = .ok (.istore_n 2, 1) := by decide +kernel
theorem dX7_manyTimes_24 : decode cX7_manyTimes 24 = .ok (.iconst 0, 1) := by decide +kernel
theorem dX7_manyTimes_25 : decode cX7_manyTimes 25 = .ok (.istore_n 3, 1) := by decide +kernel
theorem dX7_manyTimes_26 : decode cX7_manyTimes 26 = .ok (.iload_n 3, 1) := by decide +kernel
theorem dX7_manyTimes_27 : decode cX7_manyTimes 27 = .ok (.aload_n 0, 1) := by decide +kernel
theorem dX7_manyTimes_28 : decode cX7_manyTimes 28 = .ok (.getfield 180, 3) := by decide +kernel
theorem dX7_manyTimes_31 : decode cX7_manyTimes 31 = .ok (.if_icmp .ge 46, 3) := by decide +kernel
theorem dX7_manyTimes_34 : decode cX7_manyTimes 34 = .ok (.aload_n 0, 1) := by decide +kernel
theorem dX7_manyTimes_35 : decode cX7_manyTimes 35 = .ok (.getfield 108, 3) := by decide +kernel
theorem dX7_manyTimes_38 : decode cX7_manyTimes 38 = .ok (.iload_n 3, 1) := by decide +kernel
theorem dX7_manyTimes_39 : decode cX7_manyTimes 39 = .ok (.iaload, 1) := by decide +kernel
theorem dX7_manyTimes_40 : decode cX7_manyTimes 40 = .ok (.iload_n 1, 1) := by decide +kernel
theorem dX7_manyTimes_41 : decode cX7_manyTimes 41 = .ok (.aload_n 0, 1) := by decide +kernel
theorem dX7_manyTimes_42 : decode cX7_manyTimes 42 = .ok (.invokevirtual 195, 3) := by decide +kernel
theorem dX7_manyTimes_45 : decode cX7_manyTimes 45 = .ok (.invokestatic 214, 3) := by decide +kernel
theorem dX7_manyTimes_48 : decode cX7_manyTimes 48 = .ok (.istore 4, 2) := by decide +kernel
theorem dX7_manyTimes_50 : decode cX7_manyTimes 50 = .ok (.aload_n 0, 1) := by decide +kernel
theorem dX7_manyTimes_51 : decode cX7_manyTimes 51 = .ok (.getfield 105, 3) := by decide +kernel
theorem dX7_manyTimes_54 : decode cX7_manyTimes 54 = .ok (.iload 4, 2) := by decide +kernel
theorem dX7_manyTimes_56 : decode cX7_manyTimes 56 = .ok (.baload, 1) := by decide +kernel
theorem dX7_manyTimes_57 : decode cX7_manyTimes 57 = .ok (.ifCond .ne 6, 3) := by decide +kernel
theorem dX7_manyTimes_60 : decode cX7_manyTimes 60 = .ok (.iinc 2 1, 3) := by decide +kernel
theorem dX7_manyTimes_63 : decode cX7_manyTimes 63 = .ok (.aload_n 0, 1) := by decide +kernel
theorem dX7_manyTimes_64 : decode cX7_manyTimes 64 = .ok (.getfield 105, 3) := by decide +kernel
theorem dX7_manyTimes_67 : decode cX7_manyTimes 67 = .ok (.iload 4, 2) := by decide +kernel
theorem dX7_manyTimes_69 : decode cX7_manyTimes 69 = .ok (.iconst 1, 1) := by decide +kernel
theorem dX7_manyTimes_70 : decode cX7_manyTimes 70 = .ok (.bastore, 1) := by decide +kernel
theorem dX7_manyTimes_71 : decode cX7_manyTimes 71 = .ok (.iinc 3 1, 3) := by decide +kernel
theorem dX7_manyTimes_74 : decode cX7_manyTimes 74 = .ok (.goto (-48), 3) := by decide +kernel
theorem dX7_manyTimes_77 : decode cX7_manyTimes 77 = .ok (.iload_n 2, 1) := by decide +kernel
theorem dX7_manyTimes_78 : decode cX7_manyTimes 78 = .ok (.ireturn, 1) := by decide +kernel
theorem dX7_few_0 : decode cX7_few 0 = .ok (.aload_n 0, 1) := by decide +kernel
theorem dX7_few_1 : decode cX7_few 1 = .ok (.iconst 0, 1) := by decide +kernel
theorem dX7_few_2 : decode cX7_few 2 = .ok (.putfield 1, 3) := by decide +kernel
theorem dX7_few_5 : decode cX7_few 5 = .ok (.aload_n 0, 1) := by decide +kernel
theorem dX7_few_6 : decode cX7_few 6 = .ok (.iload_n 1, 1) := by decide +kernel
theorem dX7_few_7 : decode cX7_few 7 = .ok (.invokevirtual 199, 3) := by decide +kernel
theorem dX7_few_10 : decode cX7_few 10 = .ok (.ifCond .ne 5, 3) := by decide +kernel
theorem dX7_few_13 : decode cX7_few 13 = .ok (.iconst (-1), 1) := by decide +kernel
theorem dX7_few_14 : decode cX7_few 14 = .ok (.ireturn, 1) := by decide +kernel
theorem dX7_few_15 : decode cX7_few 15 = .ok (.aload_n 0, 1) := by decide +kernel
theorem dX7_few_16 : decode cX7_few 16 = .ok (.iload_n 1, 1) := by decide +kernel
theorem dX7_few_17 : decode cX7_few 17 = .ok (.invokevirtual 205, 3) := by decide +kernel
theorem dX7_few_20 : decode cX7_few 20 = .ok (.istore_n 2, 1) := by decide +kernel
theorem dX7_few_21 : decode cX7_few 21 = .ok (.iconst 0, 1) := by decide +kernel
theorem dX7_few_22 : decode cX7_few 22 = .ok (.istore_n 3, 1) := by decide +kernel
theorem dX7_few_23 : decode cX7_few 23 = .ok (.iconst 2, 1) := by decide +kernel
theorem dX7_few_24 : decode cX7_few 24 = .ok (.istore 4, 2) := by decide +kernel
theorem dX7_few_26 : decode cX7_few 26 = .ok (.iload 4, 2) := by decide +kernel
theorem dX7_few_28 : decode cX7_few 28 = .ok (.aload_n 0, 1) := by decide +kernel
theorem dX7_few_29 : decode cX7_few 29 = .ok (.invokevirtual 195, 3) := by decide +kernel
theorem dX7_few_32 : decode cX7_few 32 = .ok (.if_icmp .gt 111, 3) := by decide +kernel
theorem dX7_few_35 : decode cX7_few 35 = .ok (.aload_n 0, 1) := by decide +kernel
theorem dX7_few_36 : decode cX7_few 36 = .ok (.invokevirtual 195, 3) := by decide +kernel
theorem dX7_few_39 : decode cX7_few 39 = .ok (.iload 4, 2) := by decide +kernel
theorem dX7_few_41 : decode cX7_few 41 = .ok (.irem, 1) := by decide +kernel
theorem dX7_few_42 : decode cX7_few 42 = .ok (.ifCond .ne 7, 3) := by decide +kernel
theorem dX7_few_45 : decode cX7_few 45 = .ok (.iconst 1, 1) := by decide +kernel
theorem dX7_few_46 : decode cX7_few 46 = .ok (.goto 4, 3) := by decide +kernel
theorem dX7_few_49 : decode cX7_few 49 = .ok (.iconst 0, 1) := by decide +kernel
theorem dX7_few_50 : decode cX7_few 50 = .ok (.istore 5, 2) := by decide +kernel
theorem dX7_few_52 : decode cX7_few 52 = .ok (.iconst 2, 1) := by decide +kernel
theorem dX7_few_53 : decode cX7_few 53 = .ok (.istore 6, 2) := by decide +kernel
theorem dX7_few_55 : decode cX7_few 55 = .ok (.iload 6, 2) := by decide +kernel
theorem dX7_few_57 : decode cX7_few 57 = .ok (.iload 4, 2) := by decide +kernel
theorem dX7_few_59 : decode cX7_few 59 = .ok (.if_icmp .ge 29, 3) := by decide +kernel
theorem dX7_few_62 : decode cX7_few 62 = .ok (.iload 5, 2) := by decide +kernel
theorem dX7_few_64 : decode cX7_few 64 = .ok (.ifCond .eq 15, 3) := by decide +kernel
theorem dX7_few_67 : decode cX7_few 67 = .ok (.iload 4, 2) := by decide +kernel
theorem dX7_few_69 : decode cX7_few 69 = .ok (.iload 6, 2) := by decide +kernel
theorem dX7_few_71 : decode cX7_few 71 = .ok (.irem, 1) := by decide +kernel
theorem dX7_few_72 : decode cX7_few 72 = .ok (.ifCond .eq 7, 3) := by decide +kernel
theorem dX7_few_75 : decode cX7_few 75 = .ok (.iconst 1, 1) := by decide +kernel
theorem dX7_few_76 : decode cX7_few 76 = .ok (.goto 4, 3) := by decide +kernel
theorem dX7_few_79 : decode cX7_few 79 = .ok (.iconst 0, 1) := by decide +kernel
theorem dX7_few_80 : decode cX7_few 80 = .ok (.istore 5, 2) := by decide +kernel
theorem dX7_few_82 : decode cX7_few 82 = .ok (.iinc 6 1, 3) := by decide +kernel
theorem dX7_few_85 : decode cX7_few 85 = .ok (.goto (-30), 3) := by decide +kernel
theorem dX7_few_88 : decode cX7_few 88 = .ok (.iload 5, 2) := by decide +kernel
theorem dX7_few_90 : decode cX7_few 90 = .ok (.ifCond .ne 6, 3) := by decide +kernel
theorem dX7_few_93 : decode cX7_few 93 = .ok (.goto 44, 3) := by decide +kernel
theorem dX7_few_96 : decode cX7_few 96 = .ok (.iconst 0, 1) := by decide +kernel
theorem dX7_few_97 : decode cX7_few 97 = .ok (.istore 6, 2) := by decide +kernel
theorem dX7_few_99 : decode cX7_few 99 = .ok (.iload_n 2, 1) := by decide +kernel
theorem dX7_few_100 : decode cX7_few 100 = .ok (.aload_n 0, 1) := by decide +kernel
theorem dX7_few_101 : decode cX7_few 101 = .ok (.iload 4, 2) := by decide +kernel
theorem dX7_few_103 : decode cX7_few 103 = .ok (.invokevirtual 217, 3) := by decide +kernel
theorem dX7_few_106 : decode cX7_few 106 = .ok (.idiv, 1) := by decide +kernel
theorem dX7_few_107 : decode cX7_few 107 = .ok (.istore 7, 2) := by decide +kernel
theorem dX7_few_109 : decode cX7_few 109 = .ok (.iload 7, 2) := by decide +kernel
theorem dX7_few_111 : decode cX7_few 111 = .ok (.iconst 1, 1) := by decide +kernel
theorem dX7_few_112 : decode cX7_few 112 = .ok (.if_icmp .le 16, 3) := by decide +kernel
theorem dX7_few_115 : decode cX7_few 115 = .ok (.iinc 6 1, 3) := by decide +kernel
theorem dX7_few_118 : decode cX7_few 118 = .ok (.iload 7, 2) := by decide +kernel
theorem dX7_few_120 : decode cX7_few 120 = .ok (.iload 4, 2) := by decide +kernel
theorem dX7_few_122 : decode cX7_few 122 = .ok (.idiv, 1) := by decide +kernel
theorem dX7_few_123 : decode cX7_few 123 = .ok (.istore 7, 2) := by decide +kernel
theorem dX7_few_125 : decode cX7_few 125 = .ok (.goto (-16), 3) := by decide +kernel
theorem dX7_few_128 : decode cX7_few 128 = .ok (.iload 6, 2) := by decide +kernel
theorem dX7_few_130 : decode cX7_few 130 = .ok (.iload_n 3, 1) := by decide +kernel
theorem dX7_few_131 : decode cX7_few 131 = .ok (.if_icmp .le 6, 3) := by decide +kernel
theorem dX7_few_134 : decode cX7_few 134 = .ok (.iload 6, 2) := by decide +kernel
theorem dX7_few_136 : decode cX7_few 136 = .ok (.istore_n 3, 1) := by decide +kernel
theorem dX7_few_137 : decode cX7_few 137 = .ok (.iinc 4 1, 3) := by decide +kernel
theorem dX7_few_140 : decode cX7_few 140 = .ok (.goto (-114), 3) := by decide +kernel
theorem dX7_few_143 : decode cX7_few 143 = .ok (.iload_n 3, 1) := by decide +kernel
theorem dX7_few_144 : decode cX7_few 144 = .ok (.ireturn, 1) := by decide +kernel
theorem dX7_nought_0 : decode cX7_nought 0 = .ok (.aload_n 0, 1) := by decide +kernel
theorem dX7_nought_1 : decode cX7_nought 1 = .ok (.iconst 0, 1) := by decide +kernel
theorem dX7_nought_2 : decode cX7_nought 2 = .ok (.putfield 1, 3) := by decide +kernel
theorem dX7_nought_5 : decode cX7_nought 5 = .ok (.aload_n 0, 1) := by decide +kernel
theorem dX7_nought_6 : decode cX7_nought 6 = .ok (.iload_n 1, 1) := by decide +kernel
theorem dX7_nought_7 : decode cX7_nought 7 = .ok (.invokevirtual 199, 3) := by decide +kernel
theorem dX7_nought_10 : decode cX7_nought 10 = .ok (.ifCond .ne 5, 3) := by decide +kernel
theorem dX7_nought_13 : decode cX7_nought 13 = .ok (.iconst (-1), 1) := by decide +kernel
theorem dX7_nought_14 : decode cX7_nought 14 = .ok (.ireturn, 1) := by decide +kernel
theorem dX7_nought_15 : decode cX7_nought 15 = .ok (.aload_n 0, 1) := by decide +kernel
theorem dX7_nought_16 : decode cX7_nought 16 = .ok (.aload_n 0, 1) := by decide +kernel
theorem dX7_nought_17 : decode cX7_nought 17 = .ok (.getfield 86, 3) := by decide +kernel
theorem dX7_nought_20 : decode cX7_nought 20 = .ok (.iload_n 1, 1) := by decide +kernel
theorem dX7_nought_21 : decode cX7_nought 21 = .ok (.aload_n 0, 1) := by decide +kernel
theorem dX7_nought_22 : decode cX7_nought 22 = .ok (.getfield 102, 3) := by decide +kernel
theorem dX7_nought_25 : decode cX7_nought 25 = .ok (.invokevirtual 128, 3) := by decide +kernel
theorem dX7_nought_28 : decode cX7_nought 28 = .ok (.iconst 1, 1) := by decide +kernel
theorem dX7_nought_29 : decode cX7_nought 29 = .ok (.istore_n 2, 1) := by decide +kernel
theorem dX7_nought_30 : decode cX7_nought 30 = .ok (.aload_n 0, 1) := by decide +kernel
theorem dX7_nought_31 : decode cX7_nought 31 = .ok (.iload_n 2, 1) := by decide +kernel
theorem dX7_nought_32 : decode cX7_nought 32 = .ok (.invokevirtual 217, 3) := by decide +kernel
theorem dX7_nought_35 : decode cX7_nought 35 = .ok (.iconst 1, 1) := by decide +kernel
theorem dX7_nought_36 : decode cX7_nought 36 = .ok (.if_icmp .le 9, 3) := by decide +kernel
theorem dX7_nought_39 : decode cX7_nought 39 = .ok (.iinc 2 1, 3) := by decide +kernel
theorem dX7_nought_42 : decode cX7_nought 42 = .ok (.goto (-12), 3) := by decide +kernel
theorem dX7_nought_45 : decode cX7_nought 45 = .ok (.iload_n 2, 1) := by decide +kernel
theorem dX7_nought_46 : decode cX7_nought 46 = .ok (.ireturn, 1) := by decide +kernel
theorem dX7_isWithin_0 : decode cX7_isWithin 0 = .ok (.iconst 0, 1) := by decide +kernel
theorem dX7_isWithin_1 : decode cX7_isWithin 1 = .ok (.istore_n 2, 1) := by decide +kernel
theorem dX7_isWithin_2 : decode cX7_isWithin 2 = .ok (.iload_n 2, 1) := by decide +kernel
theorem dX7_isWithin_3 : decode cX7_isWithin 3 = .ok (.iconst 3, 1) := by decide +kernel
theorem dX7_isWithin_4 : decode cX7_isWithin 4 = .ok (.if_icmp .ge 31, 3) := by decide +kernel
theorem dX7_isWithin_7 : decode cX7_isWithin 7 = .ok (.aload_n 0, 1) := by decide +kernel
theorem dX7_isWithin_8 : decode cX7_isWithin 8 = .ok (.getfield 102, 3) := by decide +kernel
theorem dX7_isWithin_11 : decode cX7_isWithin 11 = .ok (.aload_n 0, 1) := by decide +kernel
theorem dX7_isWithin_12 : decode cX7_isWithin 12 = .ok (.getfield 86, 3) := by decide +kernel
theorem dX7_isWithin_15 : decode cX7_isWithin 15 = .ok (.iconst 2, 1) := by decide +kernel
theorem dX7_isWithin_16 : decode cX7_isWithin 16 = .ok (.iconst 3, 1) := by decide +kernel
theorem dX7_isWithin_17 : decode cX7_isWithin 17 = .ok (.iload_n 1, 1) := by decide +kernel
theorem dX7_isWithin_18 : decode cX7_isWithin 18 = .ok (.imul, 1) := by decide +kernel
theorem dX7_isWithin_19 : decode cX7_isWithin 19 = .ok (.iadd, 1) := by decide +kernel
theorem dX7_isWithin_20 : decode cX7_isWithin 20 = .ok (.iload_n 2, 1) := by decide +kernel
theorem dX7_isWithin_21 : decode cX7_isWithin 21 = .ok (.iadd, 1) := by decide +kernel
theorem dX7_isWithin_22 : decode cX7_isWithin 22 = .ok (.iaload, 1) := by decide +kernel
theorem dX7_isWithin_23 : decode cX7_isWithin 23 = .ok (.baload, 1) := by decide +kernel
theorem dX7_isWithin_24 : decode cX7_isWithin 24 = .ok (.ifCond .ne 5, 3) := by decide +kernel
theorem dX7_isWithin_27 : decode cX7_isWithin 27 = .ok (.iconst 0, 1) := by decide +kernel
theorem dX7_isWithin_28 : decode cX7_isWithin 28 = .ok (.ireturn, 1) := by decide +kernel
theorem dX7_isWithin_29 : decode cX7_isWithin 29 = .ok (.iinc 2 1, 3) := by decide +kernel
theorem dX7_isWithin_32 : decode cX7_isWithin 32 = .ok (.goto (-30), 3) := by decide +kernel
theorem dX7_isWithin_35 : decode cX7_isWithin 35 = .ok (.iconst 1, 1) := by decide +kernel
theorem dX7_isWithin_36 : decode cX7_isWithin 36 = .ok (.ireturn, 1) := by decide +kernel
theorem dX7_lies_0 : decode cX7_lies 0 = .ok (.aload_n 0, 1) := by decide +kernel
theorem dX7_lies_1 : decode cX7_lies 1 = .ok (.iconst 0, 1) := by decide +kernel
theorem dX7_lies_2 : decode cX7_lies 2 = .ok (.putfield 1, 3) := by decide +kernel
theorem dX7_lies_5 : decode cX7_lies 5 = .ok (.aload_n 0, 1) := by decide +kernel
theorem dX7_lies_6 : decode cX7_lies 6 = .ok (.iload_n 1, 1) := by decide +kernel
theorem dX7_lies_7 : decode cX7_lies 7 = .ok (.invokevirtual 199, 3) := by decide +kernel
theorem dX7_lies_10 : decode cX7_lies 10 = .ok (.ifCond .eq 11, 3) := by decide +kernel
theorem dX7_lies_13 : decode cX7_lies 13 = .ok (.aload_n 0, 1) := by decide +kernel
theorem dX7_lies_14 : decode cX7_lies 14 = .ok (.iload_n 2, 1) := by decide +kernel
theorem dX7_lies_15 : decode cX7_lies 15 = .ok (.invokevirtual 199, 3) := by decide +kernel
theorem dX7_lies_18 : decode cX7_lies 18 = .ok (.ifCond .ne 5, 3) := by decide +kernel
theorem dX7_lies_21 : decode cX7_lies 21 = .ok (.iconst (-1), 1) := by decide +kernel
theorem dX7_lies_22 : decode cX7_lies 22 = .ok (.ireturn, 1) := by decide +kernel
theorem dX7_lies_23 : decode cX7_lies 23 = .ok (.aload_n 0, 1) := by decide +kernel
theorem dX7_lies_24 : decode cX7_lies 24 = .ok (.aload_n 0, 1) := by decide +kernel
theorem dX7_lies_25 : decode cX7_lies 25 = .ok (.getfield 86, 3) := by decide +kernel
theorem dX7_lies_28 : decode cX7_lies 28 = .ok (.iload_n 2, 1) := by decide +kernel
theorem dX7_lies_29 : decode cX7_lies 29 = .ok (.aload_n 0, 1) := by decide +kernel
theorem dX7_lies_30 : decode cX7_lies 30 = .ok (.getfield 102, 3) := by decide +kernel
theorem dX7_lies_33 : decode cX7_lies 33 = .ok (.invokevirtual 128, 3) := by decide +kernel
theorem dX7_lies_36 : decode cX7_lies 36 = .ok (.aload_n 0, 1) := by decide +kernel
theorem dX7_lies_37 : decode cX7_lies 37 = .ok (.iload_n 1, 1) := by decide +kernel
theorem dX7_lies_38 : decode cX7_lies 38 = .ok (.invokevirtual 220, 3) := by decide +kernel
theorem dX7_lies_41 : decode cX7_lies 41 = .ok (.istore_n 3, 1) := by decide +kernel
theorem dX7_lies_42 : decode cX7_lies 42 = .ok (.aload_n 0, 1) := by decide +kernel
theorem dX7_lies_43 : decode cX7_lies 43 = .ok (.aload_n 0, 1) := by decide +kernel
theorem dX7_lies_44 : decode cX7_lies 44 = .ok (.getfield 86, 3) := by decide +kernel
theorem dX7_lies_47 : decode cX7_lies 47 = .ok (.iload_n 1, 1) := by decide +kernel
theorem dX7_lies_48 : decode cX7_lies 48 = .ok (.aload_n 0, 1) := by decide +kernel
theorem dX7_lies_49 : decode cX7_lies 49 = .ok (.getfield 102, 3) := by decide +kernel
theorem dX7_lies_52 : decode cX7_lies 52 = .ok (.invokevirtual 128, 3) := by decide +kernel
theorem dX7_lies_55 : decode cX7_lies 55 = .ok (.aload_n 0, 1) := by decide +kernel
theorem dX7_lies_56 : decode cX7_lies 56 = .ok (.iload_n 2, 1) := by decide +kernel
theorem dX7_lies_57 : decode cX7_lies 57 = .ok (.invokevirtual 220, 3) := by decide +kernel
theorem dX7_lies_60 : decode cX7_lies 60 = .ok (.istore 4, 2) := by decide +kernel
theorem dX7_lies_62 : decode cX7_lies 62 = .ok (.iload_n 3, 1) := by decide +kernel
theorem dX7_lies_63 : decode cX7_lies 63 = .ok (.ifCond .eq 12, 3) := by decide +kernel
theorem dX7_lies_66 : decode cX7_lies 66 = .ok (.iload 4, 2) := by decide +kernel
theorem dX7_lies_68 : decode cX7_lies 68 = .ok (.ifCond .eq 7, 3) := by decide +kernel
theorem dX7_lies_71 : decode cX7_lies 71 = .ok (.iconst 0, 1) := by decide +kernel
theorem dX7_lies_72 : decode cX7_lies 72 = .ok (.goto 21, 3) := by decide +kernel
theorem dX7_lies_75 : decode cX7_lies 75 = .ok (.iload_n 3, 1) := by decide +kernel
theorem dX7_lies_76 : decode cX7_lies 76 = .ok (.ifCond .eq 7, 3) := by decide +kernel
theorem dX7_lies_79 : decode cX7_lies 79 = .ok (.iconst 1, 1) := by decide +kernel
theorem dX7_lies_80 : decode cX7_lies 80 = .ok (.goto 13, 3) := by decide +kernel
theorem dX7_lies_83 : decode cX7_lies 83 = .ok (.iload 4, 2) := by decide +kernel
theorem dX7_lies_85 : decode cX7_lies 85 = .ok (.ifCond .eq 7, 3) := by decide +kernel
theorem dX7_lies_88 : decode cX7_lies 88 = .ok (.iconst 2, 1) := by decide +kernel
theorem dX7_lies_89 : decode cX7_lies 89 = .ok (.goto 4, 3) := by decide +kernel
theorem dX7_lies_92 : decode cX7_lies 92 = .ok (.iconst 3, 1) := by decide +kernel
theorem dX7_lies_93 : decode cX7_lies 93 = .ok (.ireturn, 1) := by decide +kernel
theorem dX7_snap_0 : decode cX7_snap 0 = .ok (.aload_n 0, 1) := by decide +kernel
theorem dX7_snap_1 : decode cX7_snap 1 = .ok (.getfield 177, 3) := by decide +kernel
theorem dX7_snap_4 : decode cX7_snap 4 = .ok (.bipush 8, 2) := by decide +kernel
theorem dX7_snap_6 : decode cX7_snap 6 = .ok (.if_icmp .ne 43, 3) := by decide +kernel
theorem dX7_snap_9 : decode cX7_snap 9 = .ok (.iconst 0, 1) := by decide +kernel
theorem dX7_snap_10 : decode cX7_snap 10 = .ok (.istore_n 1, 1) := by decide +kernel
theorem dX7_snap_11 : decode cX7_snap 11 = .ok (.iload_n 1, 1) := by decide +kernel
theorem dX7_snap_12 : decode cX7_snap 12 = .ok (.sipush 147, 3) := by decide +kernel
theorem dX7_snap_15 : decode cX7_snap 15 = .ok (.if_icmp .ge 24, 3) := by decide +kernel
theorem dX7_snap_18 : decode cX7_snap 18 = .ok (.aload_n 0, 1) := by decide +kernel
theorem dX7_snap_19 : decode cX7_snap 19 = .ok (.getfield 95, 3) := by decide +kernel
theorem dX7_snap_22 : decode cX7_snap 22 = .ok (.iload_n 1, 1) := by decide +kernel
theorem dX7_snap_23 : decode cX7_snap 23 = .ok (.aload_n 0, 1) := by decide +kernel
theorem dX7_snap_24 : decode cX7_snap 24 = .ok (.getfield 95, 3) := by decide +kernel
theorem dX7_snap_27 : decode cX7_snap 27 = .ok (.iload_n 1, 1) := by decide +kernel
theorem dX7_snap_28 : decode cX7_snap 28 = .ok (.bipush 21, 2) := by decide +kernel
theorem dX7_snap_30 : decode cX7_snap 30 = .ok (.iadd, 1) := by decide +kernel
theorem dX7_snap_31 : decode cX7_snap 31 = .ok (.iaload, 1) := by decide +kernel
theorem dX7_snap_32 : decode cX7_snap 32 = .ok (.iastore, 1) := by decide +kernel
theorem dX7_snap_33 : decode cX7_snap 33 = .ok (.iinc 1 1, 3) := by decide +kernel
theorem dX7_snap_36 : decode cX7_snap 36 = .ok (.goto (-25), 3) := by decide +kernel
theorem dX7_snap_39 : decode cX7_snap 39 = .ok (.aload_n 0, 1) := by decide +kernel
theorem dX7_snap_40 : decode cX7_snap 40 = .ok (.dup, 1) := by decide +kernel
theorem dX7_snap_41 : decode cX7_snap 41 = .ok (.getfield 177, 3) := by decide +kernel
theorem dX7_snap_44 : decode cX7_snap 44 = .ok (.iconst 1, 1) := by decide +kernel
theorem dX7_snap_45 : decode cX7_snap 45 = .ok (.isub, 1) := by decide +kernel
theorem dX7_snap_46 : decode cX7_snap 46 = .ok (.putfield 177, 3) := by decide +kernel
theorem dX7_snap_49 : decode cX7_snap 49 = .ok (.aload_n 0, 1) := by decide +kernel
theorem dX7_snap_50 : decode cX7_snap 50 = .ok (.getfield 86, 3) := by decide +kernel
theorem dX7_snap_53 : decode cX7_snap 53 = .ok (.iconst 0, 1) := by decide +kernel
theorem dX7_snap_54 : decode cX7_snap 54 = .ok (.aload_n 0, 1) := by decide +kernel
theorem dX7_snap_55 : decode cX7_snap 55 = .ok (.getfield 95, 3) := by decide +kernel
theorem dX7_snap_58 : decode cX7_snap 58 = .ok (.bipush 21, 2) := by decide +kernel
theorem dX7_snap_60 : decode cX7_snap 60 = .ok (.aload_n 0, 1) := by decide +kernel
theorem dX7_snap_61 : decode cX7_snap 61 = .ok (.getfield 177, 3) := by decide +kernel
theorem dX7_snap_64 : decode cX7_snap 64 = .ok (.imul, 1) := by decide +kernel
theorem dX7_snap_65 : decode cX7_snap 65 = .ok (.invokestatic 173, 3) := by decide +kernel
theorem dX7_snap_68 : decode cX7_snap 68 = .ok (.aload_n 0, 1) := by decide +kernel
theorem dX7_snap_69 : decode cX7_snap 69 = .ok (.dup, 1) := by decide +kernel
theorem dX7_snap_70 : decode cX7_snap 70 = .ok (.getfield 177, 3) := by decide +kernel
theorem dX7_snap_73 : decode cX7_snap 73 = .ok (.iconst 1, 1) := by decide +kernel
theorem dX7_snap_74 : decode cX7_snap 74 = .ok (.iadd, 1) := by decide +kernel
theorem dX7_snap_75 : decode cX7_snap 75 = .ok (.putfield 177, 3) := by decide +kernel
