theorem dX7_thrown_0 : decode cX7_thrown 0 = .ok (.aload_n 0, 1) := by decide +kernel
theorem dX7_thrown_1 : decode cX7_thrown 1 = .ok (.getfield 1, 3) := by decide +kernel
theorem dX7_thrown_4 : decode cX7_thrown 4 = .ok (.ireturn, 1) := by decide +kernel
theorem dX7_refuse_0 : decode cX7_refuse 0 = .ok (.aload_n 0, 1) := by decide +kernel
theorem dX7_refuse_1 : decode cX7_refuse 1 = .ok (.iconst 1, 1) := by decide +kernel
theorem dX7_refuse_2 : decode cX7_refuse 2 = .ok (.putfield 1, 3) := by decide +kernel
theorem dX7_refuse_5 : decode cX7_refuse 5 = .ok (.iconst 0, 1) := by decide +kernel
theorem dX7_refuse_6 : decode cX7_refuse 6 = .ok (.ireturn, 1) := by decide +kernel
theorem dX7_isIn_0 : decode cX7_isIn 0 = .ok (.iload_n 0, 1) := by decide +kernel
theorem dX7_isIn_1 : decode cX7_isIn 1 = .ok (.iload_n 1, 1) := by decide +kernel
theorem dX7_isIn_2 : decode cX7_isIn 2 = .ok (.if_icmp .lt 12, 3) := by decide +kernel
theorem dX7_isIn_5 : decode cX7_isIn 5 = .ok (.iload_n 0, 1) := by decide +kernel
theorem dX7_isIn_6 : decode cX7_isIn 6 = .ok (.iload_n 2, 1) := by decide +kernel
theorem dX7_isIn_7 : decode cX7_isIn 7 = .ok (.if_icmp .gt 7, 3) := by decide +kernel
theorem dX7_isIn_10 : decode cX7_isIn 10 = .ok (.iconst 1, 1) := by decide +kernel
theorem dX7_isIn_11 : decode cX7_isIn 11 = .ok (.goto 4, 3) := by decide +kernel
theorem dX7_isIn_14 : decode cX7_isIn 14 = .ok (.iconst 0, 1) := by decide +kernel
theorem dX7_isIn_15 : decode cX7_isIn 15 = .ok (.ireturn, 1) := by decide +kernel
theorem dX7_lays_0 : decode cX7_lays 0 = .ok (.bipush 24, 2) := by decide +kernel
theorem dX7_lays_2 : decode cX7_lays 2 = .ok (.istore_n 2, 1) := by decide +kernel
theorem dX7_lays_3 : decode cX7_lays 3 = .ok (.iload_n 2, 1) := by decide +kernel
theorem dX7_lays_4 : decode cX7_lays 4 = .ok (.ifCond .lt 35, 3) := by decide +kernel
theorem dX7_lays_7 : decode cX7_lays 7 = .ok (.aload_n 0, 1) := by decide +kernel
theorem dX7_lays_8 : decode cX7_lays 8 = .ok (.getfield 7, 3) := by decide +kernel
theorem dX7_lays_11 : decode cX7_lays 11 = .ok (.aload_n 0, 1) := by decide +kernel
theorem dX7_lays_12 : decode cX7_lays 12 = .ok (.getfield 11, 3) := by decide +kernel
theorem dX7_lays_15 : decode cX7_lays 15 = .ok (.iload_n 1, 1) := by decide +kernel
theorem dX7_lays_16 : decode cX7_lays 16 = .ok (.iload_n 2, 1) := by decide +kernel
theorem dX7_lays_17 : decode cX7_lays 17 = .ok (.iushr, 1) := by decide +kernel
theorem dX7_lays_18 : decode cX7_lays 18 = .ok (.sipush 255, 3) := by decide +kernel
theorem dX7_lays_21 : decode cX7_lays 21 = .ok (.iand, 1) := by decide +kernel
theorem dX7_lays_22 : decode cX7_lays 22 = .ok (.iastore, 1) := by decide +kernel
theorem dX7_lays_23 : decode cX7_lays 23 = .ok (.aload_n 0, 1) := by decide +kernel
theorem dX7_lays_24 : decode cX7_lays 24 = .ok (.dup, 1) := by decide +kernel
theorem dX7_lays_25 : decode cX7_lays 25 = .ok (.getfield 11, 3) := by decide +kernel
theorem dX7_lays_28 : decode cX7_lays 28 = .ok (.iconst 1, 1) := by decide +kernel
theorem dX7_lays_29 : decode cX7_lays 29 = .ok (.iadd, 1) := by decide +kernel
theorem dX7_lays_30 : decode cX7_lays 30 = .ok (.putfield 11, 3) := by decide +kernel
theorem dX7_lays_33 : decode cX7_lays 33 = .ok (.iinc 2 (-8), 3) := by decide +kernel
theorem dX7_lays_36 : decode cX7_lays 36 = .ok (.goto (-33), 3) := by decide +kernel
theorem dX7_lays_39 : decode cX7_lays 39 = .ok (.return_, 1) := by decide +kernel
theorem dX7_feed_0 : decode cX7_feed 0 = .ok (.aload_n 0, 1) := by decide +kernel
theorem dX7_feed_1 : decode cX7_feed 1 = .ok (.iconst 0, 1) := by decide +kernel
theorem dX7_feed_2 : decode cX7_feed 2 = .ok (.putfield 1, 3) := by decide +kernel
theorem dX7_feed_5 : decode cX7_feed 5 = .ok (.aload_n 0, 1) := by decide +kernel
theorem dX7_feed_6 : decode cX7_feed 6 = .ok (.getfield 11, 3) := by decide +kernel
theorem dX7_feed_9 : decode cX7_feed 9 = .ok (.bipush 20, 2) := by decide +kernel
theorem dX7_feed_11 : decode cX7_feed 11 = .ok (.iadd, 1) := by decide +kernel
theorem dX7_feed_12 : decode cX7_feed 12 = .ok (.sipush 540, 3) := by decide +kernel
theorem dX7_feed_15 : decode cX7_feed 15 = .ok (.if_icmp .le 5, 3) := by decide +kernel
theorem dX7_feed_18 : decode cX7_feed 18 = .ok (.iconst (-1), 1) := by decide +kernel
theorem dX7_feed_19 : decode cX7_feed 19 = .ok (.ireturn, 1) := by decide +kernel
theorem dX7_feed_20 : decode cX7_feed 20 = .ok (.aload_n 0, 1) := by decide +kernel
theorem dX7_feed_21 : decode cX7_feed 21 = .ok (.iload_n 1, 1) := by decide +kernel
theorem dX7_feed_22 : decode cX7_feed 22 = .ok (.invokevirtual 14, 3) := by decide +kernel
theorem dX7_feed_25 : decode cX7_feed 25 = .ok (.aload_n 0, 1) := by decide +kernel
theorem dX7_feed_26 : decode cX7_feed 26 = .ok (.iload_n 2, 1) := by decide +kernel
theorem dX7_feed_27 : decode cX7_feed 27 = .ok (.invokevirtual 14, 3) := by decide +kernel
theorem dX7_feed_30 : decode cX7_feed 30 = .ok (.aload_n 0, 1) := by decide +kernel
theorem dX7_feed_31 : decode cX7_feed 31 = .ok (.iload_n 3, 1) := by decide +kernel
theorem dX7_feed_32 : decode cX7_feed 32 = .ok (.invokevirtual 14, 3) := by decide +kernel
theorem dX7_feed_35 : decode cX7_feed 35 = .ok (.aload_n 0, 1) := by decide +kernel
theorem dX7_feed_36 : decode cX7_feed 36 = .ok (.iload 4, 2) := by decide +kernel
theorem dX7_feed_38 : decode cX7_feed 38 = .ok (.invokevirtual 14, 3) := by decide +kernel
theorem dX7_feed_41 : decode cX7_feed 41 = .ok (.aload_n 0, 1) := by decide +kernel
theorem dX7_feed_42 : decode cX7_feed 42 = .ok (.iload 5, 2) := by decide +kernel
theorem dX7_feed_44 : decode cX7_feed 44 = .ok (.invokevirtual 14, 3) := by decide +kernel
theorem dX7_feed_47 : decode cX7_feed 47 = .ok (.aload_n 0, 1) := by decide +kernel
theorem dX7_feed_48 : decode cX7_feed 48 = .ok (.getfield 11, 3) := by decide +kernel
theorem dX7_feed_51 : decode cX7_feed 51 = .ok (.ireturn, 1) := by decide +kernel
theorem dX7_end_0 : decode cX7_end 0 = .ok (.aload_n 0, 1) := by decide +kernel
theorem dX7_end_1 : decode cX7_end 1 = .ok (.iconst 0, 1) := by decide +kernel
theorem dX7_end_2 : decode cX7_end 2 = .ok (.putfield 1, 3) := by decide +kernel
theorem dX7_end_5 : decode cX7_end 5 = .ok (.iload_n 1, 1) := by decide +kernel
theorem dX7_end_6 : decode cX7_end 6 = .ok (.ifCond .lt 11, 3) := by decide +kernel
theorem dX7_end_9 : decode cX7_end 9 = .ok (.iload_n 1, 1) := by decide +kernel
theorem dX7_end_10 : decode cX7_end 10 = .ok (.aload_n 0, 1) := by decide +kernel
theorem dX7_end_11 : decode cX7_end 11 = .ok (.getfield 11, 3) := by decide +kernel
theorem dX7_end_14 : decode cX7_end 14 = .ok (.if_icmp .le 5, 3) := by decide +kernel
theorem dX7_end_17 : decode cX7_end 17 = .ok (.iconst 0, 1) := by decide +kernel
theorem dX7_end_18 : decode cX7_end 18 = .ok (.ireturn, 1) := by decide +kernel
theorem dX7_end_19 : decode cX7_end 19 = .ok (.aload_n 0, 1) := by decide +kernel
theorem dX7_end_20 : decode cX7_end 20 = .ok (.iload_n 1, 1) := by decide +kernel
theorem dX7_end_21 : decode cX7_end 21 = .ok (.putfield 11, 3) := by decide +kernel
theorem dX7_end_24 : decode cX7_end 24 = .ok (.iconst 1, 1) := by decide +kernel
theorem dX7_end_25 : decode cX7_end 25 = .ok (.ireturn, 1) := by decide +kernel
theorem dX7_tapeAt_0 : decode cX7_tapeAt 0 = .ok (.iload_n 1, 1) := by decide +kernel
theorem dX7_tapeAt_1 : decode cX7_tapeAt 1 = .ok (.aload_n 0, 1) := by decide +kernel
theorem dX7_tapeAt_2 : decode cX7_tapeAt 2 = .ok (.getfield 18, 3) := by decide +kernel
theorem dX7_tapeAt_5 : decode cX7_tapeAt 5 = .ok (.if_icmp .ge 12, 3) := by decide +kernel
theorem dX7_tapeAt_8 : decode cX7_tapeAt 8 = .ok (.aload_n 0, 1) := by decide +kernel
theorem dX7_tapeAt_9 : decode cX7_tapeAt 9 = .ok (.getfield 7, 3) := by decide +kernel
theorem dX7_tapeAt_12 : decode cX7_tapeAt 12 = .ok (.iload_n 1, 1) := by decide +kernel
theorem dX7_tapeAt_13 : decode cX7_tapeAt 13 = .ok (.iaload, 1) := by decide +kernel
theorem dX7_tapeAt_14 : decode cX7_tapeAt 14 = .ok (.goto 4, 3) := by decide +kernel
theorem dX7_tapeAt_17 : decode cX7_tapeAt 17 = .ok (.iconst 0, 1) := by decide +kernel
theorem dX7_tapeAt_18 : decode cX7_tapeAt 18 = .ok (.ireturn, 1) := by decide +kernel
theorem dX7_isDigit_0 : decode cX7_isDigit 0 = .ok (.iload_n 0, 1) := by decide +kernel
theorem dX7_isDigit_1 : decode cX7_isDigit 1 = .ok (.bipush 48, 2) := by decide +kernel
theorem dX7_isDigit_3 : decode cX7_isDigit 3 = .ok (.if_icmp .lt 13, 3) := by decide +kernel
theorem dX7_isDigit_6 : decode cX7_isDigit 6 = .ok (.iload_n 0, 1) := by decide +kernel
theorem dX7_isDigit_7 : decode cX7_isDigit 7 = .ok (.bipush 57, 2) := by decide +kernel
theorem dX7_isDigit_9 : decode cX7_isDigit 9 = .ok (.if_icmp .gt 7, 3) := by decide +kernel
theorem dX7_isDigit_12 : decode cX7_isDigit 12 = .ok (.iconst 1, 1) := by decide +kernel
theorem dX7_isDigit_13 : decode cX7_isDigit 13 = .ok (.goto 4, 3) := by decide +kernel
theorem dX7_isDigit_16 : decode cX7_isDigit 16 = .ok (.iconst 0, 1) := by decide +kernel
theorem dX7_isDigit_17 : decode cX7_isDigit 17 = .ok (.ireturn, 1) := by decide +kernel
theorem dX7_isLetter_0 : decode cX7_isLetter 0 = .ok (.iload_n 0, 1) := by decide +kernel
theorem dX7_isLetter_1 : decode cX7_isLetter 1 = .ok (.bipush 97, 2) := by decide +kernel
theorem dX7_isLetter_3 : decode cX7_isLetter 3 = .ok (.if_icmp .lt 13, 3) := by decide +kernel
theorem dX7_isLetter_6 : decode cX7_isLetter 6 = .ok (.iload_n 0, 1) := by decide +kernel
theorem dX7_isLetter_7 : decode cX7_isLetter 7 = .ok (.bipush 122, 2) := by decide +kernel
theorem dX7_isLetter_9 : decode cX7_isLetter 9 = .ok (.if_icmp .gt 7, 3) := by decide +kernel
theorem dX7_isLetter_12 : decode cX7_isLetter 12 = .ok (.iconst 1, 1) := by decide +kernel
theorem dX7_isLetter_13 : decode cX7_isLetter 13 = .ok (.goto 4, 3) := by decide +kernel
theorem dX7_isLetter_16 : decode cX7_isLetter 16 = .ok (.iconst 0, 1) := by decide +kernel
theorem dX7_isLetter_17 : decode cX7_isLetter 17 = .ok (.ireturn, 1) := by decide +kernel
theorem dX7_next_0 : decode cX7_next 0 = .ok (.aload_n 0, 1) := by decide +kernel
theorem dX7_next_1 : decode cX7_next 1 = .ok (.getfield 21, 3) := by decide +kernel
theorem dX7_next_4 : decode cX7_next 4 = .ok (.aload_n 0, 1) := by decide +kernel
theorem dX7_next_5 : decode cX7_next 5 = .ok (.getfield 18, 3) := by decide +kernel
theorem dX7_next_8 : decode cX7_next 8 = .ok (.if_icmp .ge 44, 3) := by decide +kernel
theorem dX7_next_11 : decode cX7_next 11 = .ok (.aload_n 0, 1) := by decide +kernel
theorem dX7_next_12 : decode cX7_next 12 = .ok (.getfield 7, 3) := by decide +kernel
theorem dX7_next_15 : decode cX7_next 15 = .ok (.aload_n 0, 1) := by decide +kernel
theorem dX7_next_16 : decode cX7_next 16 = .ok (.getfield 21, 3) := by decide +kernel
theorem dX7_next_19 : decode cX7_next 19 = .ok (.iaload, 1) := by decide +kernel
theorem dX7_next_20 : decode cX7_next 20 = .ok (.bipush 32, 2) := by decide +kernel
theorem dX7_next_22 : decode cX7_next 22 = .ok (.if_icmp .eq 17, 3) := by decide +kernel
theorem dX7_next_25 : decode cX7_next 25 = .ok (.aload_n 0, 1) := by decide +kernel
theorem dX7_next_26 : decode cX7_next 26 = .ok (.getfield 7, 3) := by decide +kernel
theorem dX7_next_29 : decode cX7_next 29 = .ok (.aload_n 0, 1) := by decide +kernel
theorem dX7_next_30 : decode cX7_next 30 = .ok (.getfield 21, 3) := by decide +kernel
theorem dX7_next_33 : decode cX7_next 33 = .ok (.iaload, 1) := by decide +kernel
theorem dX7_next_34 : decode cX7_next 34 = .ok (.bipush 10, 2) := by decide +kernel
theorem dX7_next_36 : decode cX7_next 36 = .ok (.if_icmp .ne 16, 3) := by decide +kernel
theorem dX7_next_39 : decode cX7_next 39 = .ok (.aload_n 0, 1) := by decide +kernel
theorem dX7_next_40 : decode cX7_next 40 = .ok (.dup, 1) := by decide +kernel
theorem dX7_next_41 : decode cX7_next 41 = .ok (.getfield 21, 3) := by decide +kernel
theorem dX7_next_44 : decode cX7_next 44 = .ok (.iconst 1, 1) := by decide +kernel
theorem dX7_next_45 : decode cX7_next 45 = .ok (.iadd, 1) := by decide +kernel
theorem dX7_next_46 : decode cX7_next 46 = .ok (.putfield 21, 3) := by decide +kernel
theorem dX7_next_49 : decode cX7_next 49 = .ok (.goto (-49), 3) := by decide +kernel
theorem dX7_next_52 : decode cX7_next 52 = .ok (.aload_n 0, 1) := by decide +kernel
theorem dX7_next_53 : decode cX7_next 53 = .ok (.aload_n 0, 1) := by decide +kernel
theorem dX7_next_54 : decode cX7_next 54 = .ok (.getfield 21, 3) := by decide +kernel
theorem dX7_next_57 : decode cX7_next 57 = .ok (.putfield 24, 3) := by decide +kernel
theorem dX7_next_60 : decode cX7_next 60 = .ok (.aload_n 0, 1) := by decide +kernel
theorem dX7_next_61 : decode cX7_next 61 = .ok (.getfield 18, 3) := by decide +kernel
theorem dX7_next_64 : decode cX7_next 64 = .ok (.sipush 500, 3) := by decide +kernel
theorem dX7_next_67 : decode cX7_next 67 = .ok (.if_icmp .le 26, 3) := by decide +kernel
theorem dX7_next_70 : decode cX7_next 70 = .ok (.aload_n 0, 1) := by decide +kernel
theorem dX7_next_71 : decode cX7_next 71 = .ok (.getfield 24, 3) := by decide +kernel
theorem dX7_next_74 : decode cX7_next 74 = .ok (.sipush 500, 3) := by decide +kernel
theorem dX7_next_77 : decode cX7_next 77 = .ok (.if_icmp .lt 16, 3) := by decide +kernel
theorem dX7_next_80 : decode cX7_next 80 = .ok (.aload_n 0, 1) := by decide +kernel
theorem dX7_next_81 : decode cX7_next 81 = .ok (.sipush 500, 3) := by decide +kernel
theorem dX7_next_84 : decode cX7_next 84 = .ok (.putfield 24, 3) := by decide +kernel
theorem dX7_next_87 : decode cX7_next 87 = .ok (.aload_n 0, 1) := by decide +kernel
theorem dX7_next_88 : decode cX7_next 88 = .ok (.iconst 1, 1) := by decide +kernel
theorem dX7_next_89 : decode cX7_next 89 = .ok (.putfield 27, 3) := by decide +kernel
theorem dX7_next_92 : decode cX7_next 92 = .ok (.return_, 1) := by decide +kernel
theorem dX7_next_93 : decode cX7_next 93 = .ok (.aload_n 0, 1) := by decide +kernel
theorem dX7_next_94 : decode cX7_next 94 = .ok (.getfield 21, 3) := by decide +kernel
theorem dX7_next_97 : decode cX7_next 97 = .ok (.aload_n 0, 1) := by decide +kernel
theorem dX7_next_98 : decode cX7_next 98 = .ok (.getfield 18, 3) := by decide +kernel
theorem dX7_next_101 : decode cX7_next 101 = .ok (.if_icmp .lt 9, 3) := by decide +kernel
theorem dX7_next_104 : decode cX7_next 104 = .ok (.aload_n 0, 1) := by decide +kernel
theorem dX7_next_105 : decode cX7_next 105 = .ok (.iconst 0, 1) := by decide +kernel
theorem dX7_next_106 : decode cX7_next 106 = .ok (.putfield 27, 3) := by decide +kernel
theorem dX7_next_109 : decode cX7_next 109 = .ok (.return_, 1) := by decide +kernel
theorem dX7_next_110 : decode cX7_next 110 = .ok (.aload_n 0, 1) := by decide +kernel
theorem dX7_next_111 : decode cX7_next 111 = .ok (.getfield 7, 3) := by decide +kernel
theorem dX7_next_114 : decode cX7_next 114 = .ok (.aload_n 0, 1) := by decide +kernel
theorem dX7_next_115 : decode cX7_next 115 = .ok (.getfield 21, 3) := by decide +kernel
theorem dX7_next_118 : decode cX7_next 118 = .ok (.iaload, 1) := by decide +kernel
theorem dX7_next_119 : decode cX7_next 119 = .ok (.istore_n 1, 1) := by decide +kernel
theorem dX7_next_120 : decode cX7_next 120 = .ok (.iload_n 1, 1) := by decide +kernel
theorem dX7_next_121 : decode cX7_next 121 = .ok (.invokestatic 30, 3) := by decide +kernel
theorem dX7_next_124 : decode cX7_next 124 = .ok (.ifCond .ne 36, 3) := by decide +kernel
theorem dX7_next_127 : decode cX7_next 127 = .ok (.iload_n 1, 1) := by decide +kernel
theorem dX7_next_128 : decode cX7_next 128 = .ok (.invokestatic 34, 3) := by decide +kernel
theorem dX7_next_131 : decode cX7_next 131 = .ok (.ifCond .ne 29, 3) := by decide +kernel
theorem dX7_next_134 : decode cX7_next 134 = .ok (.aload_n 0, 1) := by decide +kernel
theorem dX7_next_135 : decode cX7_next 135 = .ok (.iload_n 1, 1) := by decide +kernel
theorem dX7_next_136 : decode cX7_next 136 = .ok (.bipush 59, 2) := by decide +kernel
theorem dX7_next_138 : decode cX7_next 138 = .ok (.if_icmp .ne 7, 3) := by decide +kernel
theorem dX7_next_141 : decode cX7_next 141 = .ok (.iconst 4, 1) := by decide +kernel
theorem dX7_next_142 : decode cX7_next 142 = .ok (.goto 4, 3) := by decide +kernel
theorem dX7_next_145 : decode cX7_next 145 = .ok (.iconst 1, 1) := by decide +kernel
theorem dX7_next_146 : decode cX7_next 146 = .ok (.putfield 27, 3) := by decide +kernel
theorem dX7_next_149 : decode cX7_next 149 = .ok (.aload_n 0, 1) := by decide +kernel
theorem dX7_next_150 : decode cX7_next 150 = .ok (.dup, 1) := by decide +kernel
theorem dX7_next_151 : decode cX7_next 151 = .ok (.getfield 21, 3) := by decide +kernel
theorem dX7_next_154 : decode cX7_next 154 = .ok (.iconst 1, 1) := by decide +kernel
theorem dX7_next_155 : decode cX7_next 155 = .ok (.iadd, 1) := by decide +kernel
theorem dX7_next_156 : decode cX7_next 156 = .ok (.putfield 21, 3) := by decide +kernel
theorem dX7_next_159 : decode cX7_next 159 = .ok (.return_, 1) := by decide +kernel
theorem dX7_next_160 : decode cX7_next 160 = .ok (.iload_n 1, 1) := by decide +kernel
theorem dX7_next_161 : decode cX7_next 161 = .ok (.invokestatic 30, 3) := by decide +kernel
theorem dX7_next_164 : decode cX7_next 164 = .ok (.istore_n 2, 1) := by decide +kernel
theorem dX7_next_165 : decode cX7_next 165 = .ok (.iconst 1, 1) := by decide +kernel
theorem dX7_next_166 : decode cX7_next 166 = .ok (.istore_n 3, 1) := by decide +kernel
theorem dX7_next_167 : decode cX7_next 167 = .ok (.aload_n 0, 1) := by decide +kernel
theorem dX7_next_168 : decode cX7_next 168 = .ok (.lconst 0, 1) := by decide +kernel
theorem dX7_next_169 : decode cX7_next 169 = .ok (.putfield 37, 3) := by decide +kernel
theorem dX7_next_172 : decode cX7_next 172 = .ok (.aload_n 0, 1) := by decide +kernel
theorem dX7_next_173 : decode cX7_next 173 = .ok (.iconst 0, 1) := by decide +kernel
theorem dX7_next_174 : decode cX7_next 174 = .ok (.putfield 41, 3) := by decide +kernel
theorem dX7_next_177 : decode cX7_next 177 = .ok (.aload_n 0, 1) := by decide +kernel
theorem dX7_next_178 : decode cX7_next 178 = .ok (.aload_n 0, 1) := by decide +kernel
theorem dX7_next_179 : decode cX7_next 179 = .ok (.getfield 21, 3) := by decide +kernel
theorem dX7_next_182 : decode cX7_next 182 = .ok (.invokevirtual 44, 3) := by decide +kernel
theorem dX7_next_185 : decode cX7_next 185 = .ok (.invokestatic 30, 3) := by decide +kernel
theorem dX7_next_188 : decode cX7_next 188 = .ok (.ifCond .ne 17, 3) := by decide +kernel
theorem dX7_next_191 : decode cX7_next 191 = .ok (.aload_n 0, 1) := by decide +kernel
theorem dX7_next_192 : decode cX7_next 192 = .ok (.aload_n 0, 1) := by decide +kernel
theorem dX7_next_193 : decode cX7_next 193 = .ok (.getfield 21, 3) := by decide +kernel
theorem dX7_next_196 : decode cX7_next 196 = .ok (.invokevirtual 44, 3) := by decide +kernel
theorem dX7_next_199 : decode cX7_next 199 = .ok (.invokestatic 34, 3) := by decide +kernel
theorem dX7_next_202 : decode cX7_next 202 = .ok (.ifCond .eq 110, 3) := by decide +kernel
theorem dX7_next_205 : decode cX7_next 205 = .ok (.aload_n 0, 1) := by decide +kernel
theorem dX7_next_206 : decode cX7_next 206 = .ok (.getfield 7, 3) := by decide +kernel
theorem dX7_next_209 : decode cX7_next 209 = .ok (.aload_n 0, 1) := by decide +kernel
theorem dX7_next_210 : decode cX7_next 210 = .ok (.getfield 21, 3) := by decide +kernel
theorem dX7_next_213 : decode cX7_next 213 = .ok (.iaload, 1) := by decide +kernel
theorem dX7_next_214 : decode cX7_next 214 = .ok (.istore 4, 2) := by decide +kernel
theorem dX7_next_216 : decode cX7_next 216 = .ok (.iload_n 3, 1) := by decide +kernel
theorem dX7_next_217 : decode cX7_next 217 = .ok (.ifCond .eq 16, 3) := by decide +kernel
theorem dX7_next_220 : decode cX7_next 220 = .ok (.iload 4, 2) := by decide +kernel
theorem dX7_next_222 : decode cX7_next 222 = .ok (.invokestatic 30, 3) := by decide +kernel
theorem dX7_next_225 : decode cX7_next 225 = .ok (.iload_n 2, 1) := by decide +kernel
theorem dX7_next_226 : decode cX7_next 226 = .ok (.if_icmp .ne 7, 3) := by decide +kernel
theorem dX7_next_229 : decode cX7_next 229 = .ok (.iconst 1, 1) := by decide +kernel
theorem dX7_next_230 : decode cX7_next 230 = .ok (.goto 4, 3) := by decide +kernel
theorem dX7_next_233 : decode cX7_next 233 = .ok (.iconst 0, 1) := by decide +kernel
theorem dX7_next_234 : decode cX7_next 234 = .ok (.istore_n 3, 1) := by decide +kernel
theorem dX7_next_235 : decode cX7_next 235 = .ok (.aload_n 0, 1) := by decide +kernel
theorem dX7_next_236 : decode cX7_next 236 = .ok (.getfield 21, 3) := by decide +kernel
theorem dX7_next_239 : decode cX7_next 239 = .ok (.aload_n 0, 1) := by decide +kernel
theorem dX7_next_240 : decode cX7_next 240 = .ok (.getfield 24, 3) := by decide +kernel
theorem dX7_next_243 : decode cX7_next 243 = .ok (.isub, 1) := by decide +kernel
theorem dX7_next_244 : decode cX7_next 244 = .ok (.bipush 9, 2) := by decide +kernel
theorem dX7_next_246 : decode cX7_next 246 = .ok (.if_icmp .ge 23, 3) := by decide +kernel
theorem dX7_next_249 : decode cX7_next 249 = .ok (.aload_n 0, 1) := by decide +kernel
theorem dX7_next_250 : decode cX7_next 250 = .ok (.ldc2_w 48, 3) := by decide +kernel
theorem dX7_next_253 : decode cX7_next 253 = .ok (.aload_n 0, 1) := by decide +kernel
theorem dX7_next_254 : decode cX7_next 254 = .ok (.getfield 37, 3) := by decide +kernel
theorem dX7_next_257 : decode cX7_next 257 = .ok (.lmul, 1) := by decide +kernel
theorem dX7_next_258 : decode cX7_next 258 = .ok (.iload 4, 2) := by decide +kernel
theorem dX7_next_260 : decode cX7_next 260 = .ok (.i2l, 1) := by decide +kernel
theorem dX7_next_261 : decode cX7_next 261 = .ok (.ladd, 1) := by decide +kernel
theorem dX7_next_262 : decode cX7_next 262 = .ok (.ldc2_w 50, 3) := by decide +kernel
theorem dX7_next_265 : decode cX7_next 265 = .ok (.lsub, 1) := by decide +kernel
theorem dX7_next_266 : decode cX7_next 266 = .ok (.putfield 37, 3) := by decide +kernel
theorem dX7_next_269 : decode cX7_next 269 = .ok (.aload_n 0, 1) := by decide +kernel
theorem dX7_next_270 : decode cX7_next 270 = .ok (.getfield 21, 3) := by decide +kernel
theorem dX7_next_273 : decode cX7_next 273 = .ok (.aload_n 0, 1) := by decide +kernel
theorem dX7_next_274 : decode cX7_next 274 = .ok (.getfield 24, 3) := by decide +kernel
theorem dX7_next_277 : decode cX7_next 277 = .ok (.isub, 1) := by decide +kernel
theorem dX7_next_278 : decode cX7_next 278 = .ok (.iconst 2, 1) := by decide +kernel
theorem dX7_next_279 : decode cX7_next 279 = .ok (.if_icmp .ge 20, 3) := by decide +kernel
theorem dX7_next_282 : decode cX7_next 282 = .ok (.aload_n 0, 1) := by decide +kernel
theorem dX7_next_283 : decode cX7_next 283 = .ok (.bipush 10, 2) := by decide +kernel
theorem dX7_next_285 : decode cX7_next 285 = .ok (.aload_n 0, 1) := by decide +kernel
theorem dX7_next_286 : decode cX7_next 286 = .ok (.getfield 41, 3) := by decide +kernel
theorem dX7_next_289 : decode cX7_next 289 = .ok (.imul, 1) := by decide +kernel
theorem dX7_next_290 : decode cX7_next 290 = .ok (.iload 4, 2) := by decide +kernel
theorem dX7_next_292 : decode cX7_next 292 = .ok (.iadd, 1) := by decide +kernel
theorem dX7_next_293 : decode cX7_next 293 = .ok (.bipush 48, 2) := by decide +kernel
theorem dX7_next_295 : decode cX7_next 295 = .ok (.isub, 1) := by decide +kernel
theorem dX7_next_296 : decode cX7_next 296 = .ok (.putfield 41, 3) := by decide +kernel
theorem dX7_next_299 : decode cX7_next 299 = .ok (.aload_n 0, 1) := by decide +kernel
theorem dX7_next_300 : decode cX7_next 300 = .ok (.dup, 1) := by decide +kernel
theorem dX7_next_301 : decode cX7_next 301 = .ok (.getfield 21, 3) := by decide +kernel
theorem dX7_next_304 : decode cX7_next 304 = .ok (.iconst 1, 1) := by decide +kernel
theorem dX7_next_305 : decode cX7_next 305 = .ok (.iadd, 1) := by decide +kernel
theorem dX7_next_306 : decode cX7_next 306 = .ok (.putfield 21, 3) := by decide +kernel
theorem dX7_next_309 : decode cX7_next 309 = .ok (.goto (-132), 3) := by decide +kernel
theorem dX7_next_312 : decode cX7_next 312 = .ok (.aload_n 0, 1) := by decide +kernel
theorem dX7_next_313 : decode cX7_next 313 = .ok (.iload_n 3, 1) := by decide +kernel
theorem dX7_next_314 : decode cX7_next 314 = .ok (.ifCond .eq 20, 3) := by decide +kernel
theorem dX7_next_317 : decode cX7_next 317 = .ok (.iload_n 2, 1) := by decide +kernel
theorem dX7_next_318 : decode cX7_next 318 = .ok (.ifCond .ne 20, 3) := by decide +kernel
theorem dX7_next_321 : decode cX7_next 321 = .ok (.aload_n 0, 1) := by decide +kernel
theorem dX7_next_322 : decode cX7_next 322 = .ok (.getfield 21, 3) := by decide +kernel
theorem dX7_next_325 : decode cX7_next 325 = .ok (.aload_n 0, 1) := by decide +kernel
theorem dX7_next_326 : decode cX7_next 326 = .ok (.getfield 24, 3) := by decide +kernel
theorem dX7_next_329 : decode cX7_next 329 = .ok (.isub, 1) := by decide +kernel
theorem dX7_next_330 : decode cX7_next 330 = .ok (.iconst 2, 1) := by decide +kernel
theorem dX7_next_331 : decode cX7_next 331 = .ok (.if_icmp .le 7, 3) := by decide +kernel
theorem dX7_next_334 : decode cX7_next 334 = .ok (.iconst 1, 1) := by decide +kernel
theorem dX7_next_335 : decode cX7_next 335 = .ok (.goto 12, 3) := by decide +kernel
theorem dX7_next_338 : decode cX7_next 338 = .ok (.iload_n 2, 1) := by decide +kernel
theorem dX7_next_339 : decode cX7_next 339 = .ok (.ifCond .eq 7, 3) := by decide +kernel
theorem dX7_next_342 : decode cX7_next 342 = .ok (.iconst 2, 1) := by decide +kernel
theorem dX7_next_343 : decode cX7_next 343 = .ok (.goto 4, 3) := by decide +kernel
theorem dX7_next_346 : decode cX7_next 346 = .ok (.iconst 3, 1) := by decide +kernel
theorem dX7_next_347 : decode cX7_next 347 = .ok (.putfield 27, 3) := by decide +kernel
theorem dX7_next_350 : decode cX7_next 350 = .ok (.return_, 1) := by decide +kernel
theorem dX7_four_0 : decode cX7_four 0 = .ok (.ldc2_w 48, 3) := by decide +kernel
theorem dX7_four_3 : decode cX7_four 3 = .ok (.ldc2_w 48, 3) := by decide +kernel
theorem dX7_four_6 : decode cX7_four 6 = .ok (.ldc2_w 48, 3) := by decide +kernel
theorem dX7_four_9 : decode cX7_four 9 = .ok (.iload_n 0, 1) := by decide +kernel
theorem dX7_four_10 : decode cX7_four 10 = .ok (.i2l, 1) := by decide +kernel
theorem dX7_four_11 : decode cX7_four 11 = .ok (.ldc2_w 50, 3) := by decide +kernel
theorem dX7_four_14 : decode cX7_four 14 = .ok (.lsub, 1) := by decide +kernel
theorem dX7_four_15 : decode cX7_four 15 = .ok (.lmul, 1) := by decide +kernel
theorem dX7_four_16 : decode cX7_four 16 = .ok (.iload_n 1, 1) := by decide +kernel
theorem dX7_four_17 : decode cX7_four 17 = .ok (.i2l, 1) := by decide +kernel
theorem dX7_four_18 : decode cX7_four 18 = .ok (.ladd, 1) := by decide +kernel
theorem dX7_four_19 : decode cX7_four 19 = .ok (.ldc2_w 50, 3) := by decide +kernel
theorem dX7_four_22 : decode cX7_four 22 = .ok (.lsub, 1) := by decide +kernel
theorem dX7_four_23 : decode cX7_four 23 = .ok (.lmul, 1) := by decide +kernel
theorem dX7_four_24 : decode cX7_four 24 = .ok (.iload_n 2, 1) := by decide +kernel
theorem dX7_four_25 : decode cX7_four 25 = .ok (.i2l, 1) := by decide +kernel
theorem dX7_four_26 : decode cX7_four 26 = .ok (.ladd, 1) := by decide +kernel
theorem dX7_four_27 : decode cX7_four 27 = .ok (.ldc2_w 50, 3) := by decide +kernel
theorem dX7_four_30 : decode cX7_four 30 = .ok (.lsub, 1) := by decide +kernel
theorem dX7_four_31 : decode cX7_four 31 = .ok (.lmul, 1) := by decide +kernel
theorem dX7_four_32 : decode cX7_four 32 = .ok (.iload_n 3, 1) := by decide +kernel
theorem dX7_four_33 : decode cX7_four 33 = .ok (.i2l, 1) := by decide +kernel
theorem dX7_four_34 : decode cX7_four 34 = .ok (.ladd, 1) := by decide +kernel
theorem dX7_four_35 : decode cX7_four 35 = .ok (.ldc2_w 50, 3) := by decide +kernel
theorem dX7_four_38 : decode cX7_four 38 = .ok (.lsub, 1) := by decide +kernel
theorem dX7_four_39 : decode cX7_four 39 = .ok (.lreturn, 1) := by decide +kernel
theorem dX7_isWord_0 : decode cX7_isWord 0 = .ok (.aload_n 0, 1) := by decide +kernel
theorem dX7_isWord_1 : decode cX7_isWord 1 = .ok (.getfield 27, 3) := by decide +kernel
theorem dX7_isWord_4 : decode cX7_isWord 4 = .ok (.iconst 2, 1) := by decide +kernel
theorem dX7_isWord_5 : decode cX7_isWord 5 = .ok (.if_icmp .ne 16, 3) := by decide +kernel
theorem dX7_isWord_8 : decode cX7_isWord 8 = .ok (.aload_n 0, 1) := by decide +kernel
theorem dX7_isWord_9 : decode cX7_isWord 9 = .ok (.getfield 37, 3) := by decide +kernel
theorem dX7_isWord_12 : decode cX7_isWord 12 = .ok (.lload_n 1, 1) := by decide +kernel
theorem dX7_isWord_13 : decode cX7_isWord 13 = .ok (.lcmp, 1) := by decide +kernel
theorem dX7_isWord_14 : decode cX7_isWord 14 = .ok (.ifCond .ne 7, 3) := by decide +kernel
theorem dX7_isWord_17 : decode cX7_isWord 17 = .ok (.iconst 1, 1) := by decide +kernel
theorem dX7_isWord_18 : decode cX7_isWord 18 = .ok (.goto 4, 3) := by decide +kernel
theorem dX7_isWord_21 : decode cX7_isWord 21 = .ok (.iconst 0, 1) := by decide +kernel
theorem dX7_isWord_22 : decode cX7_isWord 22 = .ok (.ireturn, 1) := by decide +kernel
theorem dX7_isModulo_0 : decode cX7_isModulo 0 = .ok (.aload_n 0, 1) := by decide +kernel
theorem dX7_isModulo_1 : decode cX7_isModulo 1 = .ok (.ldc2_w 52, 3) := by decide +kernel
theorem dX7_isModulo_4 : decode cX7_isModulo 4 = .ok (.bipush 109, 2) := by decide +kernel
theorem dX7_isModulo_6 : decode cX7_isModulo 6 = .ok (.bipush 111, 2) := by decide +kernel
theorem dX7_isModulo_8 : decode cX7_isModulo 8 = .ok (.bipush 100, 2) := by decide +kernel
theorem dX7_isModulo_10 : decode cX7_isModulo 10 = .ok (.bipush 117, 2) := by decide +kernel
theorem dX7_isModulo_12 : decode cX7_isModulo 12 = .ok (.invokestatic 54, 3) := by decide +kernel
theorem dX7_isModulo_15 : decode cX7_isModulo 15 = .ok (.lmul, 1) := by decide +kernel
theorem dX7_isModulo_16 : decode cX7_isModulo 16 = .ok (.ldc2_w 58, 3) := by decide +kernel
theorem dX7_isModulo_19 : decode cX7_isModulo 19 = .ok (.ladd, 1) := by decide +kernel
theorem dX7_isModulo_20 : decode cX7_isModulo 20 = .ok (.ldc2_w 60, 3) := by decide +kernel
theorem dX7_isModulo_23 : decode cX7_isModulo 23 = .ok (.ladd, 1) := by decide +kernel
theorem dX7_isModulo_24 : decode cX7_isModulo 24 = .ok (.invokevirtual 62, 3) := by decide +kernel
theorem dX7_isModulo_27 : decode cX7_isModulo 27 = .ok (.ireturn, 1) := by decide +kernel
theorem dX7_isModule_0 : decode cX7_isModule 0 = .ok (.aload_n 0, 1) := by decide +kernel
theorem dX7_isModule_1 : decode cX7_isModule 1 = .ok (.ldc2_w 52, 3) := by decide +kernel
theorem dX7_isModule_4 : decode cX7_isModule 4 = .ok (.bipush 109, 2) := by decide +kernel
theorem dX7_isModule_6 : decode cX7_isModule 6 = .ok (.bipush 111, 2) := by decide +kernel
theorem dX7_isModule_8 : decode cX7_isModule 8 = .ok (.bipush 100, 2) := by decide +kernel
theorem dX7_isModule_10 : decode cX7_isModule 10 = .ok (.bipush 117, 2) := by decide +kernel
theorem dX7_isModule_12 : decode cX7_isModule 12 = .ok (.invokestatic 54, 3) := by decide +kernel
theorem dX7_isModule_15 : decode cX7_isModule 15 = .ok (.lmul, 1) := by decide +kernel
theorem dX7_isModule_16 : decode cX7_isModule 16 = .ok (.ldc2_w 58, 3) := by decide +kernel
theorem dX7_isModule_19 : decode cX7_isModule 19 = .ok (.ladd, 1) := by decide +kernel
theorem dX7_isModule_20 : decode cX7_isModule 20 = .ok (.ldc2_w 66, 3) := by decide +kernel
theorem dX7_isModule_23 : decode cX7_isModule 23 = .ok (.ladd, 1) := by decide +kernel
theorem dX7_isModule_24 : decode cX7_isModule 24 = .ok (.invokevirtual 62, 3) := by decide +kernel
theorem dX7_isModule_27 : decode cX7_isModule 27 = .ok (.ireturn, 1) := by decide +kernel
theorem dX7_isEquation_0 : decode cX7_isEquation 0 = .ok (.aload_n 0, 1) := by decide +kernel
theorem dX7_isEquation_1 : decode cX7_isEquation 1 = .ok (.ldc2_w 68, 3) := by decide +kernel
theorem dX7_isEquation_4 : decode cX7_isEquation 4 = .ok (.bipush 101, 2) := by decide +kernel
theorem dX7_isEquation_6 : decode cX7_isEquation 6 = .ok (.bipush 113, 2) := by decide +kernel
theorem dX7_isEquation_8 : decode cX7_isEquation 8 = .ok (.bipush 117, 2) := by decide +kernel
theorem dX7_isEquation_10 : decode cX7_isEquation 10 = .ok (.bipush 97, 2) := by decide +kernel
theorem dX7_isEquation_12 : decode cX7_isEquation 12 = .ok (.invokestatic 54, 3) := by decide +kernel
theorem dX7_isEquation_15 : decode cX7_isEquation 15 = .ok (.lmul, 1) := by decide +kernel
theorem dX7_isEquation_16 : decode cX7_isEquation 16 = .ok (.bipush 116, 2) := by decide +kernel
theorem dX7_isEquation_18 : decode cX7_isEquation 18 = .ok (.bipush 105, 2) := by decide +kernel
theorem dX7_isEquation_20 : decode cX7_isEquation 20 = .ok (.bipush 111, 2) := by decide +kernel
theorem dX7_isEquation_22 : decode cX7_isEquation 22 = .ok (.bipush 110, 2) := by decide +kernel
theorem dX7_isEquation_24 : decode cX7_isEquation 24 = .ok (.invokestatic 54, 3) := by decide +kernel
theorem dX7_isEquation_27 : decode cX7_isEquation 27 = .ok (.ladd, 1) := by decide +kernel
theorem dX7_isEquation_28 : decode cX7_isEquation 28 = .ok (.invokevirtual 62, 3) := by decide +kernel
theorem dX7_isEquation_31 : decode cX7_isEquation 31 = .ok (.ireturn, 1) := by decide +kernel
theorem dX7_isRowWord_0 : decode cX7_isRowWord 0 = .ok (.aload_n 0, 1) := by decide +kernel
theorem dX7_isRowWord_1 : decode cX7_isRowWord 1 = .ok (.ldc2_w 70, 3) := by decide +kernel
theorem dX7_isRowWord_4 : decode cX7_isRowWord 4 = .ok (.invokevirtual 62, 3) := by decide +kernel
theorem dX7_isRowWord_7 : decode cX7_isRowWord 7 = .ok (.ireturn, 1) := by decide +kernel
theorem dX7_isIs_0 : decode cX7_isIs 0 = .ok (.aload_n 0, 1) := by decide +kernel
theorem dX7_isIs_1 : decode cX7_isIs 1 = .ok (.ldc2_w 72, 3) := by decide +kernel
theorem dX7_isIs_4 : decode cX7_isIs 4 = .ok (.invokevirtual 62, 3) := by decide +kernel
theorem dX7_isIs_7 : decode cX7_isIs 7 = .ok (.ireturn, 1) := by decide +kernel
theorem dX7_bad_0 : decode cX7_bad 0 = .ok (.aload_n 0, 1) := by decide +kernel
theorem dX7_bad_1 : decode cX7_bad 1 = .ok (.aload_n 0, 1) := by decide +kernel
theorem dX7_bad_2 : decode cX7_bad 2 = .ok (.getfield 27, 3) := by decide +kernel
theorem dX7_bad_5 : decode cX7_bad 5 = .ok (.iconst 1, 1) := by decide +kernel
theorem dX7_bad_6 : decode cX7_bad 6 = .ok (.if_icmp .ne 7, 3) := by decide +kernel
theorem dX7_bad_9 : decode cX7_bad 9 = .ok (.iconst 1, 1) := by decide +kernel
theorem dX7_bad_10 : decode cX7_bad 10 = .ok (.goto 4, 3) := by decide +kernel
theorem dX7_bad_13 : decode cX7_bad 13 = .ok (.iload_n 1, 1) := by decide +kernel
theorem dX7_bad_14 : decode cX7_bad 14 = .ok (.putfield 74, 3) := by decide +kernel
theorem dX7_bad_17 : decode cX7_bad 17 = .ok (.aload_n 0, 1) := by decide +kernel
theorem dX7_bad_18 : decode cX7_bad 18 = .ok (.aload_n 0, 1) := by decide +kernel
theorem dX7_bad_19 : decode cX7_bad 19 = .ok (.getfield 24, 3) := by decide +kernel
theorem dX7_bad_22 : decode cX7_bad 22 = .ok (.putfield 77, 3) := by decide +kernel
theorem dX7_bad_25 : decode cX7_bad 25 = .ok (.iconst 0, 1) := by decide +kernel
theorem dX7_bad_26 : decode cX7_bad 26 = .ok (.ireturn, 1) := by decide +kernel
theorem dX7_init_0 : decode cX7_init 0 = .ok (.aload_n 0, 1) := by decide +kernel
theorem dX7_init_1 : decode cX7_init 1 = .ok (.invokespecial 80, 3) := by decide +kernel
theorem dX7_init_4 : decode cX7_init 4 = .ok (.aload_n 0, 1) := by decide +kernel
theorem dX7_init_5 : decode cX7_init 5 = .ok (.sipush 540, 3) := by decide +kernel
theorem dX7_init_8 : decode cX7_init 8 = .ok (.newarray .int, 2) := by decide +kernel
theorem dX7_init_10 : decode cX7_init 10 = .ok (.putfield 7, 3) := by decide +kernel
theorem dX7_init_13 : decode cX7_init 13 = .ok (.aload_n 0, 1) := by decide +kernel
theorem dX7_init_14 : decode cX7_init 14 = .ok (.bipush 21, 2) := by decide +kernel
theorem dX7_init_16 : decode cX7_init 16 = .ok (.newarray .int, 2) := by decide +kernel
theorem dX7_init_18 : decode cX7_init 18 = .ok (.putfield 86, 3) := by decide +kernel
theorem dX7_init_21 : decode cX7_init 21 = .ok (.aload_n 0, 1) := by decide +kernel
theorem dX7_init_22 : decode cX7_init 22 = .ok (.bipush 21, 2) := by decide +kernel
theorem dX7_init_24 : decode cX7_init 24 = .ok (.newarray .int, 2) := by decide +kernel
theorem dX7_init_26 : decode cX7_init 26 = .ok (.putfield 89, 3) := by decide +kernel
theorem dX7_init_29 : decode cX7_init 29 = .ok (.aload_n 0, 1) := by decide +kernel
theorem dX7_init_30 : decode cX7_init 30 = .ok (.bipush 42, 2) := by decide +kernel
theorem dX7_init_32 : decode cX7_init 32 = .ok (.newarray .int, 2) := by decide +kernel
theorem dX7_init_34 : decode cX7_init 34 = .ok (.putfield 92, 3) := by decide +kernel
theorem dX7_init_37 : decode cX7_init 37 = .ok (.aload_n 0, 1) := by decide +kernel
theorem dX7_init_38 : decode cX7_init 38 = .ok (.sipush 168, 3) := by decide +kernel
theorem dX7_init_41 : decode cX7_init 41 = .ok (.newarray .int, 2) := by decide +kernel
theorem dX7_init_43 : decode cX7_init 43 = .ok (.putfield 95, 3) := by decide +kernel
theorem dX7_init_46 : decode cX7_init 46 = .ok (.aload_n 0, 1) := by decide +kernel
theorem dX7_init_47 : decode cX7_init 47 = .ok (.iconst 2, 1) := by decide +kernel
theorem dX7_init_48 : decode cX7_init 48 = .ok (.newarray .boolean, 2) := by decide +kernel
theorem dX7_init_50 : decode cX7_init 50 = .ok (.putfield 98, 3) := by decide +kernel
theorem dX7_init_53 : decode cX7_init 53 = .ok (.aload_n 0, 1) := by decide +kernel
theorem dX7_init_54 : decode cX7_init 54 = .ok (.sipush 27000, 3) := by decide +kernel
theorem dX7_init_57 : decode cX7_init 57 = .ok (.newarray .boolean, 2) := by decide +kernel
theorem dX7_init_59 : decode cX7_init 59 = .ok (.putfield 102, 3) := by decide +kernel
theorem dX7_init_62 : decode cX7_init 62 = .ok (.aload_n 0, 1) := by decide +kernel
theorem dX7_init_63 : decode cX7_init 63 = .ok (.sipush 27000, 3) := by decide +kernel
theorem dX7_init_66 : decode cX7_init 66 = .ok (.newarray .boolean, 2) := by decide +kernel
theorem dX7_init_68 : decode cX7_init 68 = .ok (.putfield 105, 3) := by decide +kernel
theorem dX7_init_71 : decode cX7_init 71 = .ok (.aload_n 0, 1) := by decide +kernel
theorem dX7_init_72 : decode cX7_init 72 = .ok (.sipush 27000, 3) := by decide +kernel
theorem dX7_init_75 : decode cX7_init 75 = .ok (.newarray .int, 2) := by decide +kernel
theorem dX7_init_77 : decode cX7_init 77 = .ok (.putfield 108, 3) := by decide +kernel
theorem dX7_init_80 : decode cX7_init 80 = .ok (.return_, 1) := by decide +kernel
theorem dX7_copy_0 : decode cX7_copy 0 = .ok (.iconst 0, 1) := by decide +kernel
theorem dX7_copy_1 : decode cX7_copy 1 = .ok (.istore 4, 2) := by decide +kernel
theorem dX7_copy_3 : decode cX7_copy 3 = .ok (.iload 4, 2) := by decide +kernel
theorem dX7_copy_5 : decode cX7_copy 5 = .ok (.bipush 21, 2) := by decide +kernel
theorem dX7_copy_7 : decode cX7_copy 7 = .ok (.if_icmp .ge 21, 3) := by decide +kernel
theorem dX7_copy_10 : decode cX7_copy 10 = .ok (.aload_n 2, 1) := by decide +kernel
theorem dX7_copy_11 : decode cX7_copy 11 = .ok (.iload_n 3, 1) := by decide +kernel
theorem dX7_copy_12 : decode cX7_copy 12 = .ok (.iload 4, 2) := by decide +kernel
theorem dX7_copy_14 : decode cX7_copy 14 = .ok (.iadd, 1) := by decide +kernel
theorem dX7_copy_15 : decode cX7_copy 15 = .ok (.aload_n 0, 1) := by decide +kernel
theorem dX7_copy_16 : decode cX7_copy 16 = .ok (.iload_n 1, 1) := by decide +kernel
theorem dX7_copy_17 : decode cX7_copy 17 = .ok (.iload 4, 2) := by decide +kernel
theorem dX7_copy_19 : decode cX7_copy 19 = .ok (.iadd, 1) := by decide +kernel
theorem dX7_copy_20 : decode cX7_copy 20 = .ok (.iaload, 1) := by decide +kernel
theorem dX7_copy_21 : decode cX7_copy 21 = .ok (.iastore, 1) := by decide +kernel
theorem dX7_copy_22 : decode cX7_copy 22 = .ok (.iinc 4 1, 3) := by decide +kernel
theorem dX7_copy_25 : decode cX7_copy 25 = .ok (.goto (-22), 3) := by decide +kernel
theorem dX7_copy_28 : decode cX7_copy 28 = .ok (.return_, 1) := by decide +kernel
theorem dX7_numbers_0 : decode cX7_numbers 0 = .ok (.iconst 0, 1) := by decide +kernel
theorem dX7_numbers_1 : decode cX7_numbers 1 = .ok (.istore_n 2, 1) := by decide +kernel
theorem dX7_numbers_2 : decode cX7_numbers 2 = .ok (.iconst 0, 1) := by decide +kernel
theorem dX7_numbers_3 : decode cX7_numbers 3 = .ok (.istore_n 3, 1) := by decide +kernel
theorem dX7_numbers_4 : decode cX7_numbers 4 = .ok (.iload_n 3, 1) := by decide +kernel
theorem dX7_numbers_5 : decode cX7_numbers 5 = .ok (.iconst 3, 1) := by decide +kernel
theorem dX7_numbers_6 : decode cX7_numbers 6 = .ok (.if_icmp .ge 72, 3) := by decide +kernel
theorem dX7_numbers_9 : decode cX7_numbers 9 = .ok (.iconst 0, 1) := by decide +kernel
theorem dX7_numbers_10 : decode cX7_numbers 10 = .ok (.istore 4, 2) := by decide +kernel
theorem dX7_numbers_12 : decode cX7_numbers 12 = .ok (.iload_n 3, 1) := by decide +kernel
theorem dX7_numbers_13 : decode cX7_numbers 13 = .ok (.aload_n 1, 1) := by decide +kernel
theorem dX7_numbers_14 : decode cX7_numbers 14 = .ok (.iconst 1, 1) := by decide +kernel
theorem dX7_numbers_15 : decode cX7_numbers 15 = .ok (.iaload, 1) := by decide +kernel
theorem dX7_numbers_16 : decode cX7_numbers 16 = .ok (.if_icmp .ge 47, 3) := by decide +kernel
theorem dX7_numbers_19 : decode cX7_numbers 19 = .ok (.aload_n 0, 1) := by decide +kernel
theorem dX7_numbers_20 : decode cX7_numbers 20 = .ok (.getfield 27, 3) := by decide +kernel
theorem dX7_numbers_23 : decode cX7_numbers 23 = .ok (.iconst 3, 1) := by decide +kernel
theorem dX7_numbers_24 : decode cX7_numbers 24 = .ok (.if_icmp .eq 11, 3) := by decide +kernel
theorem dX7_numbers_27 : decode cX7_numbers 27 = .ok (.aload_n 0, 1) := by decide +kernel
theorem dX7_numbers_28 : decode cX7_numbers 28 = .ok (.iconst 1, 1) := by decide +kernel
theorem dX7_numbers_29 : decode cX7_numbers 29 = .ok (.invokevirtual 111, 3) := by decide +kernel
theorem dX7_numbers_32 : decode cX7_numbers 32 = .ok (.pop, 1) := by decide +kernel
theorem dX7_numbers_33 : decode cX7_numbers 33 = .ok (.iconst (-1), 1) := by decide +kernel
theorem dX7_numbers_34 : decode cX7_numbers 34 = .ok (.ireturn, 1) := by decide +kernel
theorem dX7_numbers_35 : decode cX7_numbers 35 = .ok (.aload_n 0, 1) := by decide +kernel
theorem dX7_numbers_36 : decode cX7_numbers 36 = .ok (.getfield 41, 3) := by decide +kernel
theorem dX7_numbers_39 : decode cX7_numbers 39 = .ok (.aload_n 1, 1) := by decide +kernel
theorem dX7_numbers_40 : decode cX7_numbers 40 = .ok (.iconst 0, 1) := by decide +kernel
theorem dX7_numbers_41 : decode cX7_numbers 41 = .ok (.iaload, 1) := by decide +kernel
theorem dX7_numbers_42 : decode cX7_numbers 42 = .ok (.if_icmp .lt 11, 3) := by decide +kernel
theorem dX7_numbers_45 : decode cX7_numbers 45 = .ok (.aload_n 0, 1) := by decide +kernel
theorem dX7_numbers_46 : decode cX7_numbers 46 = .ok (.iconst 2, 1) := by decide +kernel
theorem dX7_numbers_47 : decode cX7_numbers 47 = .ok (.invokevirtual 111, 3) := by decide +kernel
theorem dX7_numbers_50 : decode cX7_numbers 50 = .ok (.pop, 1) := by decide +kernel
theorem dX7_numbers_51 : decode cX7_numbers 51 = .ok (.iconst (-1), 1) := by decide +kernel
theorem dX7_numbers_52 : decode cX7_numbers 52 = .ok (.ireturn, 1) := by decide +kernel
theorem dX7_numbers_53 : decode cX7_numbers 53 = .ok (.aload_n 0, 1) := by decide +kernel
theorem dX7_numbers_54 : decode cX7_numbers 54 = .ok (.getfield 41, 3) := by decide +kernel
theorem dX7_numbers_57 : decode cX7_numbers 57 = .ok (.istore 4, 2) := by decide +kernel
theorem dX7_numbers_59 : decode cX7_numbers 59 = .ok (.aload_n 0, 1) := by decide +kernel
theorem dX7_numbers_60 : decode cX7_numbers 60 = .ok (.invokevirtual 114, 3) := by decide +kernel
theorem dX7_numbers_63 : decode cX7_numbers 63 = .ok (.aload_n 1, 1) := by decide +kernel
theorem dX7_numbers_64 : decode cX7_numbers 64 = .ok (.iconst 0, 1) := by decide +kernel
theorem dX7_numbers_65 : decode cX7_numbers 65 = .ok (.iaload, 1) := by decide +kernel
theorem dX7_numbers_66 : decode cX7_numbers 66 = .ok (.iload_n 2, 1) := by decide +kernel
theorem dX7_numbers_67 : decode cX7_numbers 67 = .ok (.imul, 1) := by decide +kernel
theorem dX7_numbers_68 : decode cX7_numbers 68 = .ok (.iload 4, 2) := by decide +kernel
theorem dX7_numbers_70 : decode cX7_numbers 70 = .ok (.iadd, 1) := by decide +kernel
theorem dX7_numbers_71 : decode cX7_numbers 71 = .ok (.istore_n 2, 1) := by decide +kernel
theorem dX7_numbers_72 : decode cX7_numbers 72 = .ok (.iinc 3 1, 3) := by decide +kernel
theorem dX7_numbers_75 : decode cX7_numbers 75 = .ok (.goto (-71), 3) := by decide +kernel
theorem dX7_numbers_78 : decode cX7_numbers 78 = .ok (.iload_n 2, 1) := by decide +kernel
theorem dX7_numbers_79 : decode cX7_numbers 79 = .ok (.ireturn, 1) := by decide +kernel
theorem dX7_readModulo_0 : decode cX7_readModulo 0 = .ok (.aload_n 0, 1) := by decide +kernel
theorem dX7_readModulo_1 : decode cX7_readModulo 1 = .ok (.invokevirtual 114, 3) := by decide +kernel
theorem dX7_readModulo_4 : decode cX7_readModulo 4 = .ok (.aload_n 0, 1) := by decide +kernel
theorem dX7_readModulo_5 : decode cX7_readModulo 5 = .ok (.getfield 27, 3) := by decide +kernel
theorem dX7_readModulo_8 : decode cX7_readModulo 8 = .ok (.iconst 3, 1) := by decide +kernel
theorem dX7_readModulo_9 : decode cX7_readModulo 9 = .ok (.if_icmp .eq 9, 3) := by decide +kernel
theorem dX7_readModulo_12 : decode cX7_readModulo 12 = .ok (.aload_n 0, 1) := by decide +kernel
theorem dX7_readModulo_13 : decode cX7_readModulo 13 = .ok (.iconst 1, 1) := by decide +kernel
theorem dX7_readModulo_14 : decode cX7_readModulo 14 = .ok (.invokevirtual 111, 3) := by decide +kernel
theorem dX7_readModulo_17 : decode cX7_readModulo 17 = .ok (.ireturn, 1) := by decide +kernel
theorem dX7_readModulo_18 : decode cX7_readModulo 18 = .ok (.aload_n 0, 1) := by decide +kernel
theorem dX7_readModulo_19 : decode cX7_readModulo 19 = .ok (.getfield 41, 3) := by decide +kernel
theorem dX7_readModulo_22 : decode cX7_readModulo 22 = .ok (.iconst 2, 1) := by decide +kernel
theorem dX7_readModulo_23 : decode cX7_readModulo 23 = .ok (.bipush 30, 2) := by decide +kernel
theorem dX7_readModulo_25 : decode cX7_readModulo 25 = .ok (.invokestatic 117, 3) := by decide +kernel
theorem dX7_readModulo_28 : decode cX7_readModulo 28 = .ok (.ifCond .ne 9, 3) := by decide +kernel
theorem dX7_readModulo_31 : decode cX7_readModulo 31 = .ok (.aload_n 0, 1) := by decide +kernel
theorem dX7_readModulo_32 : decode cX7_readModulo 32 = .ok (.iconst 2, 1) := by decide +kernel
theorem dX7_readModulo_33 : decode cX7_readModulo 33 = .ok (.invokevirtual 111, 3) := by decide +kernel
theorem dX7_readModulo_36 : decode cX7_readModulo 36 = .ok (.ireturn, 1) := by decide +kernel
theorem dX7_readModulo_37 : decode cX7_readModulo 37 = .ok (.aload_n 0, 1) := by decide +kernel
theorem dX7_readModulo_38 : decode cX7_readModulo 38 = .ok (.getfield 41, 3) := by decide +kernel
theorem dX7_readModulo_41 : decode cX7_readModulo 41 = .ok (.istore_n 1, 1) := by decide +kernel
theorem dX7_readModulo_42 : decode cX7_readModulo 42 = .ok (.aload_n 0, 1) := by decide +kernel
theorem dX7_readModulo_43 : decode cX7_readModulo 43 = .ok (.invokevirtual 114, 3) := by decide +kernel
theorem dX7_readModulo_46 : decode cX7_readModulo 46 = .ok (.aload_n 0, 1) := by decide +kernel
theorem dX7_readModulo_47 : decode cX7_readModulo 47 = .ok (.getfield 27, 3) := by decide +kernel
theorem dX7_readModulo_50 : decode cX7_readModulo 50 = .ok (.iconst 3, 1) := by decide +kernel
theorem dX7_readModulo_51 : decode cX7_readModulo 51 = .ok (.if_icmp .eq 9, 3) := by decide +kernel
theorem dX7_readModulo_54 : decode cX7_readModulo 54 = .ok (.aload_n 0, 1) := by decide +kernel
theorem dX7_readModulo_55 : decode cX7_readModulo 55 = .ok (.iconst 1, 1) := by decide +kernel
theorem dX7_readModulo_56 : decode cX7_readModulo 56 = .ok (.invokevirtual 111, 3) := by decide +kernel
theorem dX7_readModulo_59 : decode cX7_readModulo 59 = .ok (.ireturn, 1) := by decide +kernel
theorem dX7_readModulo_60 : decode cX7_readModulo 60 = .ok (.aload_n 0, 1) := by decide +kernel
theorem dX7_readModulo_61 : decode cX7_readModulo 61 = .ok (.getfield 41, 3) := by decide +kernel
theorem dX7_readModulo_64 : decode cX7_readModulo 64 = .ok (.iconst 1, 1) := by decide +kernel
theorem dX7_readModulo_65 : decode cX7_readModulo 65 = .ok (.iconst 3, 1) := by decide +kernel
theorem dX7_readModulo_66 : decode cX7_readModulo 66 = .ok (.invokestatic 117, 3) := by decide +kernel
theorem dX7_readModulo_69 : decode cX7_readModulo 69 = .ok (.ifCond .ne 9, 3) := by decide +kernel
theorem dX7_readModulo_72 : decode cX7_readModulo 72 = .ok (.aload_n 0, 1) := by decide +kernel
theorem dX7_readModulo_73 : decode cX7_readModulo 73 = .ok (.iconst 2, 1) := by decide +kernel
theorem dX7_readModulo_74 : decode cX7_readModulo 74 = .ok (.invokevirtual 111, 3) := by decide +kernel
theorem dX7_readModulo_77 : decode cX7_readModulo 77 = .ok (.ireturn, 1) := by decide +kernel
theorem dX7_readModulo_78 : decode cX7_readModulo 78 = .ok (.aload_n 0, 1) := by decide +kernel
theorem dX7_readModulo_79 : decode cX7_readModulo 79 = .ok (.getfield 89, 3) := by decide +kernel
theorem dX7_readModulo_82 : decode cX7_readModulo 82 = .ok (.iconst 0, 1) := by decide +kernel
theorem dX7_readModulo_83 : decode cX7_readModulo 83 = .ok (.iload_n 1, 1) := by decide +kernel
theorem dX7_readModulo_84 : decode cX7_readModulo 84 = .ok (.iastore, 1) := by decide +kernel
theorem dX7_readModulo_85 : decode cX7_readModulo 85 = .ok (.aload_n 0, 1) := by decide +kernel
theorem dX7_readModulo_86 : decode cX7_readModulo 86 = .ok (.getfield 89, 3) := by decide +kernel
theorem dX7_readModulo_89 : decode cX7_readModulo 89 = .ok (.iconst 1, 1) := by decide +kernel
theorem dX7_readModulo_90 : decode cX7_readModulo 90 = .ok (.aload_n 0, 1) := by decide +kernel
theorem dX7_readModulo_91 : decode cX7_readModulo 91 = .ok (.getfield 41, 3) := by decide +kernel
theorem dX7_readModulo_94 : decode cX7_readModulo 94 = .ok (.iastore, 1) := by decide +kernel
theorem dX7_readModulo_95 : decode cX7_readModulo 95 = .ok (.aload_n 0, 1) := by decide +kernel
theorem dX7_readModulo_96 : decode cX7_readModulo 96 = .ok (.invokevirtual 114, 3) := by decide +kernel
theorem dX7_readModulo_99 : decode cX7_readModulo 99 = .ok (.iconst 1, 1) := by decide +kernel
theorem dX7_readModulo_100 : decode cX7_readModulo 100 = .ok (.ireturn, 1) := by decide +kernel
theorem dX7_readModule_0 : decode cX7_readModule 0 = .ok (.aload_n 0, 1) := by decide +kernel
theorem dX7_readModule_1 : decode cX7_readModule 1 = .ok (.getfield 121, 3) := by decide +kernel
theorem dX7_readModule_4 : decode cX7_readModule 4 = .ok (.iconst 4, 1) := by decide +kernel
theorem dX7_readModule_5 : decode cX7_readModule 5 = .ok (.if_icmp .ne 9, 3) := by decide +kernel
theorem dX7_readModule_8 : decode cX7_readModule 8 = .ok (.aload_n 0, 1) := by decide +kernel
theorem dX7_readModule_9 : decode cX7_readModule 9 = .ok (.iconst 3, 1) := by decide +kernel
theorem dX7_readModule_10 : decode cX7_readModule 10 = .ok (.invokevirtual 111, 3) := by decide +kernel
theorem dX7_readModule_13 : decode cX7_readModule 13 = .ok (.ireturn, 1) := by decide +kernel
theorem dX7_readModule_14 : decode cX7_readModule 14 = .ok (.aload_n 0, 1) := by decide +kernel
theorem dX7_readModule_15 : decode cX7_readModule 15 = .ok (.dup, 1) := by decide +kernel
theorem dX7_readModule_16 : decode cX7_readModule 16 = .ok (.getfield 121, 3) := by decide +kernel
theorem dX7_readModule_19 : decode cX7_readModule 19 = .ok (.iconst 1, 1) := by decide +kernel
theorem dX7_readModule_20 : decode cX7_readModule 20 = .ok (.iadd, 1) := by decide +kernel
theorem dX7_readModule_21 : decode cX7_readModule 21 = .ok (.putfield 121, 3) := by decide +kernel
theorem dX7_readModule_24 : decode cX7_readModule 24 = .ok (.aload_n 0, 1) := by decide +kernel
theorem dX7_readModule_25 : decode cX7_readModule 25 = .ok (.invokevirtual 114, 3) := by decide +kernel
theorem dX7_readModule_28 : decode cX7_readModule 28 = .ok (.iconst 1, 1) := by decide +kernel
theorem dX7_readModule_29 : decode cX7_readModule 29 = .ok (.ireturn, 1) := by decide +kernel
theorem dX7_readRow_0 : decode cX7_readRow 0 = .ok (.aload_n 0, 1) := by decide +kernel
theorem dX7_readRow_1 : decode cX7_readRow 1 = .ok (.getfield 121, 3) := by decide +kernel
theorem dX7_readRow_4 : decode cX7_readRow 4 = .ok (.ifCond .ne 9, 3) := by decide +kernel
theorem dX7_readRow_7 : decode cX7_readRow 7 = .ok (.aload_n 0, 1) := by decide +kernel
theorem dX7_readRow_8 : decode cX7_readRow 8 = .ok (.iconst 1, 1) := by decide +kernel
theorem dX7_readRow_9 : decode cX7_readRow 9 = .ok (.invokevirtual 111, 3) := by decide +kernel
theorem dX7_readRow_12 : decode cX7_readRow 12 = .ok (.ireturn, 1) := by decide +kernel
theorem dX7_readRow_13 : decode cX7_readRow 13 = .ok (.aload_n 0, 1) := by decide +kernel
theorem dX7_readRow_14 : decode cX7_readRow 14 = .ok (.invokevirtual 114, 3) := by decide +kernel
theorem dX7_readRow_17 : decode cX7_readRow 17 = .ok (.aload_n 0, 1) := by decide +kernel
theorem dX7_readRow_18 : decode cX7_readRow 18 = .ok (.aload_n 0, 1) := by decide +kernel
theorem dX7_readRow_19 : decode cX7_readRow 19 = .ok (.getfield 89, 3) := by decide +kernel
theorem dX7_readRow_22 : decode cX7_readRow 22 = .ok (.invokevirtual 124, 3) := by decide +kernel
theorem dX7_readRow_25 : decode cX7_readRow 25 = .ok (.istore_n 1, 1) := by decide +kernel
theorem dX7_readRow_26 : decode cX7_readRow 26 = .ok (.iload_n 1, 1) := by decide +kernel
theorem dX7_readRow_27 : decode cX7_readRow 27 = .ok (.iconst (-1), 1) := by decide +kernel
theorem dX7_readRow_28 : decode cX7_readRow 28 = .ok (.if_icmp .ne 5, 3) := by decide +kernel
theorem dX7_readRow_31 : decode cX7_readRow 31 = .ok (.iconst 0, 1) := by decide +kernel
theorem dX7_readRow_32 : decode cX7_readRow 32 = .ok (.ireturn, 1) := by decide +kernel
theorem dX7_readRow_33 : decode cX7_readRow 33 = .ok (.aload_n 0, 1) := by decide +kernel
theorem dX7_readRow_34 : decode cX7_readRow 34 = .ok (.aload_n 0, 1) := by decide +kernel
theorem dX7_readRow_35 : decode cX7_readRow 35 = .ok (.getfield 89, 3) := by decide +kernel
theorem dX7_readRow_38 : decode cX7_readRow 38 = .ok (.aload_n 0, 1) := by decide +kernel
theorem dX7_readRow_39 : decode cX7_readRow 39 = .ok (.getfield 121, 3) := by decide +kernel
theorem dX7_readRow_42 : decode cX7_readRow 42 = .ok (.iconst 1, 1) := by decide +kernel
theorem dX7_readRow_43 : decode cX7_readRow 43 = .ok (.isub, 1) := by decide +kernel
theorem dX7_readRow_44 : decode cX7_readRow 44 = .ok (.aload_n 0, 1) := by decide +kernel
theorem dX7_readRow_45 : decode cX7_readRow 45 = .ok (.getfield 102, 3) := by decide +kernel
theorem dX7_readRow_48 : decode cX7_readRow 48 = .ok (.invokevirtual 128, 3) := by decide +kernel
theorem dX7_readRow_51 : decode cX7_readRow 51 = .ok (.aload_n 0, 1) := by decide +kernel
theorem dX7_readRow_52 : decode cX7_readRow 52 = .ok (.aload_n 0, 1) := by decide +kernel
theorem dX7_readRow_53 : decode cX7_readRow 53 = .ok (.getfield 89, 3) := by decide +kernel
theorem dX7_readRow_56 : decode cX7_readRow 56 = .ok (.aload_n 0, 1) := by decide +kernel
theorem dX7_readRow_57 : decode cX7_readRow 57 = .ok (.getfield 102, 3) := by decide +kernel
theorem dX7_readRow_60 : decode cX7_readRow 60 = .ok (.iload_n 1, 1) := by decide +kernel
theorem dX7_readRow_61 : decode cX7_readRow 61 = .ok (.invokevirtual 132, 3) := by decide +kernel
theorem dX7_readRow_64 : decode cX7_readRow 64 = .ok (.aload_n 0, 1) := by decide +kernel
theorem dX7_readRow_65 : decode cX7_readRow 65 = .ok (.getfield 89, 3) := by decide +kernel
theorem dX7_readRow_68 : decode cX7_readRow 68 = .ok (.aload_n 0, 1) := by decide +kernel
theorem dX7_readRow_69 : decode cX7_readRow 69 = .ok (.getfield 102, 3) := by decide +kernel
theorem dX7_readRow_72 : decode cX7_readRow 72 = .ok (.aload_n 0, 1) := by decide +kernel
theorem dX7_readRow_73 : decode cX7_readRow 73 = .ok (.getfield 121, 3) := by decide +kernel
theorem dX7_readRow_76 : decode cX7_readRow 76 = .ok (.iconst 1, 1) := by decide +kernel
theorem dX7_readRow_77 : decode cX7_readRow 77 = .ok (.isub, 1) := by decide +kernel
theorem dX7_readRow_78 : decode cX7_readRow 78 = .ok (.invokestatic 136, 3) := by decide +kernel
theorem dX7_readRow_81 : decode cX7_readRow 81 = .ok (.iconst 1, 1) := by decide +kernel
theorem dX7_readRow_82 : decode cX7_readRow 82 = .ok (.ireturn, 1) := by decide +kernel
theorem dX7_readEquation_0 : decode cX7_readEquation 0 = .ok (.aload_n 0, 1) := by decide +kernel
theorem dX7_readEquation_1 : decode cX7_readEquation 1 = .ok (.getfield 89, 3) := by decide +kernel
theorem dX7_readEquation_4 : decode cX7_readEquation 4 = .ok (.bipush 14, 2) := by decide +kernel
theorem dX7_readEquation_6 : decode cX7_readEquation 6 = .ok (.iaload, 1) := by decide +kernel
theorem dX7_readEquation_7 : decode cX7_readEquation 7 = .ok (.istore_n 1, 1) := by decide +kernel
theorem dX7_readEquation_8 : decode cX7_readEquation 8 = .ok (.iload_n 1, 1) := by decide +kernel
theorem dX7_readEquation_9 : decode cX7_readEquation 9 = .ok (.iconst 3, 1) := by decide +kernel
theorem dX7_readEquation_10 : decode cX7_readEquation 10 = .ok (.if_icmp .ne 9, 3) := by decide +kernel
theorem dX7_readEquation_13 : decode cX7_readEquation 13 = .ok (.aload_n 0, 1) := by decide +kernel
theorem dX7_readEquation_14 : decode cX7_readEquation 14 = .ok (.iconst 3, 1) := by decide +kernel
theorem dX7_readEquation_15 : decode cX7_readEquation 15 = .ok (.invokevirtual 111, 3) := by decide +kernel
theorem dX7_readEquation_18 : decode cX7_readEquation 18 = .ok (.ireturn, 1) := by decide +kernel
theorem dX7_readEquation_19 : decode cX7_readEquation 19 = .ok (.aload_n 0, 1) := by decide +kernel
theorem dX7_readEquation_20 : decode cX7_readEquation 20 = .ok (.invokevirtual 114, 3) := by decide +kernel
theorem dX7_readEquation_23 : decode cX7_readEquation 23 = .ok (.aload_n 0, 1) := by decide +kernel
theorem dX7_readEquation_24 : decode cX7_readEquation 24 = .ok (.aload_n 0, 1) := by decide +kernel
theorem dX7_readEquation_25 : decode cX7_readEquation 25 = .ok (.getfield 89, 3) := by decide +kernel
theorem dX7_readEquation_28 : decode cX7_readEquation 28 = .ok (.invokevirtual 124, 3) := by decide +kernel
theorem dX7_readEquation_31 : decode cX7_readEquation 31 = .ok (.istore_n 2, 1) := by decide +kernel
theorem dX7_readEquation_32 : decode cX7_readEquation 32 = .ok (.iload_n 2, 1) := by decide +kernel
theorem dX7_readEquation_33 : decode cX7_readEquation 33 = .ok (.iconst (-1), 1) := by decide +kernel
theorem dX7_readEquation_34 : decode cX7_readEquation 34 = .ok (.if_icmp .ne 5, 3) := by decide +kernel
theorem dX7_readEquation_37 : decode cX7_readEquation 37 = .ok (.iconst 0, 1) := by decide +kernel
theorem dX7_readEquation_38 : decode cX7_readEquation 38 = .ok (.ireturn, 1) := by decide +kernel
theorem dX7_readEquation_39 : decode cX7_readEquation 39 = .ok (.aload_n 0, 1) := by decide +kernel
theorem dX7_readEquation_40 : decode cX7_readEquation 40 = .ok (.invokevirtual 139, 3) := by decide +kernel
theorem dX7_readEquation_43 : decode cX7_readEquation 43 = .ok (.ifCond .ne 9, 3) := by decide +kernel
theorem dX7_readEquation_46 : decode cX7_readEquation 46 = .ok (.aload_n 0, 1) := by decide +kernel
theorem dX7_readEquation_47 : decode cX7_readEquation 47 = .ok (.iconst 1, 1) := by decide +kernel
theorem dX7_readEquation_48 : decode cX7_readEquation 48 = .ok (.invokevirtual 111, 3) := by decide +kernel
theorem dX7_readEquation_51 : decode cX7_readEquation 51 = .ok (.ireturn, 1) := by decide +kernel
theorem dX7_readEquation_52 : decode cX7_readEquation 52 = .ok (.aload_n 0, 1) := by decide +kernel
theorem dX7_readEquation_53 : decode cX7_readEquation 53 = .ok (.invokevirtual 114, 3) := by decide +kernel
theorem dX7_readEquation_56 : decode cX7_readEquation 56 = .ok (.aload_n 0, 1) := by decide +kernel
theorem dX7_readEquation_57 : decode cX7_readEquation 57 = .ok (.getfield 27, 3) := by decide +kernel
theorem dX7_readEquation_60 : decode cX7_readEquation 60 = .ok (.iconst 3, 1) := by decide +kernel
theorem dX7_readEquation_61 : decode cX7_readEquation 61 = .ok (.if_icmp .eq 9, 3) := by decide +kernel
theorem dX7_readEquation_64 : decode cX7_readEquation 64 = .ok (.aload_n 0, 1) := by decide +kernel
theorem dX7_readEquation_65 : decode cX7_readEquation 65 = .ok (.iconst 1, 1) := by decide +kernel
theorem dX7_readEquation_66 : decode cX7_readEquation 66 = .ok (.invokevirtual 111, 3) := by decide +kernel
theorem dX7_readEquation_69 : decode cX7_readEquation 69 = .ok (.ireturn, 1) := by decide +kernel
theorem dX7_readEquation_70 : decode cX7_readEquation 70 = .ok (.aload_n 0, 1) := by decide +kernel
theorem dX7_readEquation_71 : decode cX7_readEquation 71 = .ok (.getfield 41, 3) := by decide +kernel
theorem dX7_readEquation_74 : decode cX7_readEquation 74 = .ok (.aload_n 0, 1) := by decide +kernel
theorem dX7_readEquation_75 : decode cX7_readEquation 75 = .ok (.getfield 89, 3) := by decide +kernel
theorem dX7_readEquation_78 : decode cX7_readEquation 78 = .ok (.iconst 0, 1) := by decide +kernel
theorem dX7_readEquation_79 : decode cX7_readEquation 79 = .ok (.iaload, 1) := by decide +kernel
theorem dX7_readEquation_80 : decode cX7_readEquation 80 = .ok (.if_icmp .lt 9, 3) := by decide +kernel
theorem dX7_readEquation_83 : decode cX7_readEquation 83 = .ok (.aload_n 0, 1) := by decide +kernel
theorem dX7_readEquation_84 : decode cX7_readEquation 84 = .ok (.iconst 2, 1) := by decide +kernel
theorem dX7_readEquation_85 : decode cX7_readEquation 85 = .ok (.invokevirtual 111, 3) := by decide +kernel
theorem dX7_readEquation_88 : decode cX7_readEquation 88 = .ok (.ireturn, 1) := by decide +kernel
theorem dX7_readEquation_89 : decode cX7_readEquation 89 = .ok (.aload_n 0, 1) := by decide +kernel
theorem dX7_readEquation_90 : decode cX7_readEquation 90 = .ok (.getfield 89, 3) := by decide +kernel
theorem dX7_readEquation_93 : decode cX7_readEquation 93 = .ok (.bipush 15, 2) := by decide +kernel
theorem dX7_readEquation_95 : decode cX7_readEquation 95 = .ok (.iload_n 1, 1) := by decide +kernel
theorem dX7_readEquation_96 : decode cX7_readEquation 96 = .ok (.iadd, 1) := by decide +kernel
theorem dX7_readEquation_97 : decode cX7_readEquation 97 = .ok (.iload_n 2, 1) := by decide +kernel
theorem dX7_readEquation_98 : decode cX7_readEquation 98 = .ok (.iastore, 1) := by decide +kernel
theorem dX7_readEquation_99 : decode cX7_readEquation 99 = .ok (.aload_n 0, 1) := by decide +kernel
theorem dX7_readEquation_100 : decode cX7_readEquation 100 = .ok (.getfield 89, 3) := by decide +kernel
theorem dX7_readEquation_103 : decode cX7_readEquation 103 = .ok (.bipush 18, 2) := by decide +kernel
theorem dX7_readEquation_105 : decode cX7_readEquation 105 = .ok (.iload_n 1, 1) := by decide +kernel
theorem dX7_readEquation_106 : decode cX7_readEquation 106 = .ok (.iadd, 1) := by decide +kernel
theorem dX7_readEquation_107 : decode cX7_readEquation 107 = .ok (.aload_n 0, 1) := by decide +kernel
theorem dX7_readEquation_108 : decode cX7_readEquation 108 = .ok (.getfield 41, 3) := by decide +kernel
theorem dX7_readEquation_111 : decode cX7_readEquation 111 = .ok (.iastore, 1) := by decide +kernel
theorem dX7_readEquation_112 : decode cX7_readEquation 112 = .ok (.aload_n 0, 1) := by decide +kernel
theorem dX7_readEquation_113 : decode cX7_readEquation 113 = .ok (.getfield 89, 3) := by decide +kernel
theorem dX7_readEquation_116 : decode cX7_readEquation 116 = .ok (.bipush 14, 2) := by decide +kernel
theorem dX7_readEquation_118 : decode cX7_readEquation 118 = .ok (.dup2, 1) := by decide +kernel
theorem dX7_readEquation_119 : decode cX7_readEquation 119 = .ok (.iaload, 1) := by decide +kernel
theorem dX7_readEquation_120 : decode cX7_readEquation 120 = .ok (.iconst 1, 1) := by decide +kernel
theorem dX7_readEquation_121 : decode cX7_readEquation 121 = .ok (.iadd, 1) := by decide +kernel
theorem dX7_readEquation_122 : decode cX7_readEquation 122 = .ok (.iastore, 1) := by decide +kernel
theorem dX7_readEquation_123 : decode cX7_readEquation 123 = .ok (.aload_n 0, 1) := by decide +kernel
theorem dX7_readEquation_124 : decode cX7_readEquation 124 = .ok (.invokevirtual 114, 3) := by decide +kernel
theorem dX7_readEquation_127 : decode cX7_readEquation 127 = .ok (.iconst 1, 1) := by decide +kernel
theorem dX7_readEquation_128 : decode cX7_readEquation 128 = .ok (.ireturn, 1) := by decide +kernel
theorem dX7_readLine_0 : decode cX7_readLine 0 = .ok (.aload_n 0, 1) := by decide +kernel
theorem dX7_readLine_1 : decode cX7_readLine 1 = .ok (.getfield 89, 3) := by decide +kernel
theorem dX7_readLine_4 : decode cX7_readLine 4 = .ok (.iconst 0, 1) := by decide +kernel
theorem dX7_readLine_5 : decode cX7_readLine 5 = .ok (.iaload, 1) := by decide +kernel
theorem dX7_readLine_6 : decode cX7_readLine 6 = .ok (.ifCond .ne 23, 3) := by decide +kernel
theorem dX7_readLine_9 : decode cX7_readLine 9 = .ok (.aload_n 0, 1) := by decide +kernel
theorem dX7_readLine_10 : decode cX7_readLine 10 = .ok (.invokevirtual 143, 3) := by decide +kernel
theorem dX7_readLine_13 : decode cX7_readLine 13 = .ok (.ifCond .eq 10, 3) := by decide +kernel
theorem dX7_readLine_16 : decode cX7_readLine 16 = .ok (.aload_n 0, 1) := by decide +kernel
theorem dX7_readLine_17 : decode cX7_readLine 17 = .ok (.invokevirtual 146, 3) := by decide +kernel
theorem dX7_readLine_20 : decode cX7_readLine 20 = .ok (.goto 8, 3) := by decide +kernel
theorem dX7_readLine_23 : decode cX7_readLine 23 = .ok (.aload_n 0, 1) := by decide +kernel
theorem dX7_readLine_24 : decode cX7_readLine 24 = .ok (.iconst 1, 1) := by decide +kernel
theorem dX7_readLine_25 : decode cX7_readLine 25 = .ok (.invokevirtual 111, 3) := by decide +kernel
theorem dX7_readLine_28 : decode cX7_readLine 28 = .ok (.ireturn, 1) := by decide +kernel
theorem dX7_readLine_29 : decode cX7_readLine 29 = .ok (.aload_n 0, 1) := by decide +kernel
theorem dX7_readLine_30 : decode cX7_readLine 30 = .ok (.invokevirtual 149, 3) := by decide +kernel
theorem dX7_readLine_33 : decode cX7_readLine 33 = .ok (.ifCond .eq 8, 3) := by decide +kernel
theorem dX7_readLine_36 : decode cX7_readLine 36 = .ok (.aload_n 0, 1) := by decide +kernel
theorem dX7_readLine_37 : decode cX7_readLine 37 = .ok (.invokevirtual 152, 3) := by decide +kernel
theorem dX7_readLine_40 : decode cX7_readLine 40 = .ok (.ireturn, 1) := by decide +kernel
theorem dX7_readLine_41 : decode cX7_readLine 41 = .ok (.aload_n 0, 1) := by decide +kernel
theorem dX7_readLine_42 : decode cX7_readLine 42 = .ok (.invokevirtual 155, 3) := by decide +kernel
theorem dX7_readLine_45 : decode cX7_readLine 45 = .ok (.ifCond .eq 8, 3) := by decide +kernel
theorem dX7_readLine_48 : decode cX7_readLine 48 = .ok (.aload_n 0, 1) := by decide +kernel
theorem dX7_readLine_49 : decode cX7_readLine 49 = .ok (.invokevirtual 158, 3) := by decide +kernel
theorem dX7_readLine_52 : decode cX7_readLine 52 = .ok (.ireturn, 1) := by decide +kernel
theorem dX7_readLine_53 : decode cX7_readLine 53 = .ok (.aload_n 0, 1) := by decide +kernel
theorem dX7_readLine_54 : decode cX7_readLine 54 = .ok (.invokevirtual 161, 3) := by decide +kernel
theorem dX7_readLine_57 : decode cX7_readLine 57 = .ok (.ifCond .eq 10, 3) := by decide +kernel
theorem dX7_readLine_60 : decode cX7_readLine 60 = .ok (.aload_n 0, 1) := by decide +kernel
theorem dX7_readLine_61 : decode cX7_readLine 61 = .ok (.invokevirtual 164, 3) := by decide +kernel
theorem dX7_readLine_64 : decode cX7_readLine 64 = .ok (.goto 8, 3) := by decide +kernel
theorem dX7_readLine_67 : decode cX7_readLine 67 = .ok (.aload_n 0, 1) := by decide +kernel
theorem dX7_readLine_68 : decode cX7_readLine 68 = .ok (.iconst 1, 1) := by decide +kernel
theorem dX7_readLine_69 : decode cX7_readLine 69 = .ok (.invokevirtual 111, 3) := by decide +kernel
theorem dX7_readLine_72 : decode cX7_readLine 72 = .ok (.ireturn, 1) := by decide +kernel
theorem dX7_readEnd_0 : decode cX7_readEnd 0 = .ok (.aload_n 0, 1) := by decide +kernel
theorem dX7_readEnd_1 : decode cX7_readEnd 1 = .ok (.getfield 27, 3) := by decide +kernel
theorem dX7_readEnd_4 : decode cX7_readEnd 4 = .ok (.iconst 4, 1) := by decide +kernel
theorem dX7_readEnd_5 : decode cX7_readEnd 5 = .ok (.if_icmp .eq 9, 3) := by decide +kernel
theorem dX7_readEnd_8 : decode cX7_readEnd 8 = .ok (.aload_n 0, 1) := by decide +kernel
theorem dX7_readEnd_9 : decode cX7_readEnd 9 = .ok (.iconst 1, 1) := by decide +kernel
theorem dX7_readEnd_10 : decode cX7_readEnd 10 = .ok (.invokevirtual 111, 3) := by decide +kernel
theorem dX7_readEnd_13 : decode cX7_readEnd 13 = .ok (.ireturn, 1) := by decide +kernel
theorem dX7_readEnd_14 : decode cX7_readEnd 14 = .ok (.aload_n 0, 1) := by decide +kernel
theorem dX7_readEnd_15 : decode cX7_readEnd 15 = .ok (.invokevirtual 114, 3) := by decide +kernel
theorem dX7_readEnd_18 : decode cX7_readEnd 18 = .ok (.iconst 1, 1) := by decide +kernel
theorem dX7_readEnd_19 : decode cX7_readEnd 19 = .ok (.ireturn, 1) := by decide +kernel
theorem dX7_text_0 : decode cX7_text 0 = .ok (.aload_n 0, 1) := by decide +kernel
theorem dX7_text_1 : decode cX7_text 1 = .ok (.iconst 0, 1) := by decide +kernel
theorem dX7_text_2 : decode cX7_text 2 = .ok (.putfield 1, 3) := by decide +kernel
theorem dX7_text_5 : decode cX7_text 5 = .ok (.aload_n 0, 1) := by decide +kernel
theorem dX7_text_6 : decode cX7_text 6 = .ok (.aload_n 0, 1) := by decide +kernel
theorem dX7_text_7 : decode cX7_text 7 = .ok (.getfield 11, 3) := by decide +kernel
theorem dX7_text_10 : decode cX7_text 10 = .ok (.putfield 18, 3) := by decide +kernel
theorem dX7_text_13 : decode cX7_text 13 = .ok (.aload_n 0, 1) := by decide +kernel
theorem dX7_text_14 : decode cX7_text 14 = .ok (.iconst 0, 1) := by decide +kernel
theorem dX7_text_15 : decode cX7_text 15 = .ok (.putfield 11, 3) := by decide +kernel
theorem dX7_text_18 : decode cX7_text 18 = .ok (.aload_n 0, 1) := by decide +kernel
theorem dX7_text_19 : decode cX7_text 19 = .ok (.iconst 0, 1) := by decide +kernel
theorem dX7_text_20 : decode cX7_text 20 = .ok (.putfield 74, 3) := by decide +kernel
theorem dX7_text_23 : decode cX7_text 23 = .ok (.aload_n 0, 1) := by decide +kernel
theorem dX7_text_24 : decode cX7_text 24 = .ok (.iconst 0, 1) := by decide +kernel
theorem dX7_text_25 : decode cX7_text 25 = .ok (.putfield 21, 3) := by decide +kernel
theorem dX7_text_28 : decode cX7_text 28 = .ok (.aload_n 0, 1) := by decide +kernel
theorem dX7_text_29 : decode cX7_text 29 = .ok (.iconst 0, 1) := by decide +kernel
theorem dX7_text_30 : decode cX7_text 30 = .ok (.putfield 121, 3) := by decide +kernel
theorem dX7_text_33 : decode cX7_text 33 = .ok (.iconst 0, 1) := by decide +kernel
theorem dX7_text_34 : decode cX7_text 34 = .ok (.istore_n 1, 1) := by decide +kernel
theorem dX7_text_35 : decode cX7_text 35 = .ok (.iconst 0, 1) := by decide +kernel
theorem dX7_text_36 : decode cX7_text 36 = .ok (.istore_n 2, 1) := by decide +kernel
theorem dX7_text_37 : decode cX7_text 37 = .ok (.iload_n 2, 1) := by decide +kernel
theorem dX7_text_38 : decode cX7_text 38 = .ok (.bipush 21, 2) := by decide +kernel
theorem dX7_text_40 : decode cX7_text 40 = .ok (.if_icmp .ge 16, 3) := by decide +kernel
theorem dX7_text_43 : decode cX7_text 43 = .ok (.aload_n 0, 1) := by decide +kernel
theorem dX7_text_44 : decode cX7_text 44 = .ok (.getfield 89, 3) := by decide +kernel
theorem dX7_text_47 : decode cX7_text 47 = .ok (.iload_n 2, 1) := by decide +kernel
theorem dX7_text_48 : decode cX7_text 48 = .ok (.iconst 0, 1) := by decide +kernel
theorem dX7_text_49 : decode cX7_text 49 = .ok (.iastore, 1) := by decide +kernel
theorem dX7_text_50 : decode cX7_text 50 = .ok (.iinc 2 1, 3) := by decide +kernel
theorem dX7_text_53 : decode cX7_text 53 = .ok (.goto (-16), 3) := by decide +kernel
theorem dX7_text_56 : decode cX7_text 56 = .ok (.aload_n 0, 1) := by decide +kernel
theorem dX7_text_57 : decode cX7_text 57 = .ok (.invokevirtual 114, 3) := by decide +kernel
theorem dX7_text_60 : decode cX7_text 60 = .ok (.aload_n 0, 1) := by decide +kernel
theorem dX7_text_61 : decode cX7_text 61 = .ok (.getfield 27, 3) := by decide +kernel
theorem dX7_text_64 : decode cX7_text 64 = .ok (.ifCond .eq 30, 3) := by decide +kernel
theorem dX7_text_67 : decode cX7_text 67 = .ok (.aload_n 0, 1) := by decide +kernel
theorem dX7_text_68 : decode cX7_text 68 = .ok (.invokevirtual 167, 3) := by decide +kernel
theorem dX7_text_71 : decode cX7_text 71 = .ok (.ifCond .eq 10, 3) := by decide +kernel
theorem dX7_text_74 : decode cX7_text 74 = .ok (.aload_n 0, 1) := by decide +kernel
theorem dX7_text_75 : decode cX7_text 75 = .ok (.invokevirtual 170, 3) := by decide +kernel
theorem dX7_text_78 : decode cX7_text 78 = .ok (.ifCond .ne 10, 3) := by decide +kernel
theorem dX7_text_81 : decode cX7_text 81 = .ok (.iconst (-1), 1) := by decide +kernel
theorem dX7_text_82 : decode cX7_text 82 = .ok (.aload_n 0, 1) := by decide +kernel
theorem dX7_text_83 : decode cX7_text 83 = .ok (.getfield 77, 3) := by decide +kernel
theorem dX7_text_86 : decode cX7_text 86 = .ok (.isub, 1) := by decide +kernel
theorem dX7_text_87 : decode cX7_text 87 = .ok (.ireturn, 1) := by decide +kernel
theorem dX7_text_88 : decode cX7_text 88 = .ok (.iinc 1 1, 3) := by decide +kernel
theorem dX7_text_91 : decode cX7_text 91 = .ok (.goto (-31), 3) := by decide +kernel
theorem dX7_text_94 : decode cX7_text 94 = .ok (.aload_n 0, 1) := by decide +kernel
theorem dX7_text_95 : decode cX7_text 95 = .ok (.getfield 89, 3) := by decide +kernel
theorem dX7_text_98 : decode cX7_text 98 = .ok (.iconst 0, 1) := by decide +kernel
theorem dX7_text_99 : decode cX7_text 99 = .ok (.aload_n 0, 1) := by decide +kernel
theorem dX7_text_100 : decode cX7_text 100 = .ok (.getfield 86, 3) := by decide +kernel
theorem dX7_text_103 : decode cX7_text 103 = .ok (.iconst 0, 1) := by decide +kernel
theorem dX7_text_104 : decode cX7_text 104 = .ok (.invokestatic 173, 3) := by decide +kernel
theorem dX7_text_107 : decode cX7_text 107 = .ok (.aload_n 0, 1) := by decide +kernel
theorem dX7_text_108 : decode cX7_text 108 = .ok (.iconst 0, 1) := by decide +kernel
theorem dX7_text_109 : decode cX7_text 109 = .ok (.putfield 177, 3) := by decide +kernel
theorem dX7_text_112 : decode cX7_text 112 = .ok (.iload_n 1, 1) := by decide +kernel
theorem dX7_text_113 : decode cX7_text 113 = .ok (.ireturn, 1) := by decide +kernel
theorem dX7_fault_0 : decode cX7_fault 0 = .ok (.aload_n 0, 1) := by decide +kernel
theorem dX7_fault_1 : decode cX7_fault 1 = .ok (.iconst 0, 1) := by decide +kernel
theorem dX7_fault_2 : decode cX7_fault 2 = .ok (.putfield 1, 3) := by decide +kernel
theorem dX7_fault_5 : decode cX7_fault 5 = .ok (.aload_n 0, 1) := by decide +kernel
theorem dX7_fault_6 : decode cX7_fault 6 = .ok (.getfield 74, 3) := by decide +kernel
theorem dX7_fault_9 : decode cX7_fault 9 = .ok (.ireturn, 1) := by decide +kernel
theorem dX7_together_0 : decode cX7_together 0 = .ok (.iload_n 0, 1) := by decide +kernel
theorem dX7_together_1 : decode cX7_together 1 = .ok (.iload_n 2, 1) := by decide +kernel
theorem dX7_together_2 : decode cX7_together 2 = .ok (.iload_n 2, 1) := by decide +kernel
theorem dX7_together_3 : decode cX7_together 3 = .ok (.imul, 1) := by decide +kernel
theorem dX7_together_4 : decode cX7_together 4 = .ok (.idiv, 1) := by decide +kernel
theorem dX7_together_5 : decode cX7_together 5 = .ok (.iload_n 1, 1) := by decide +kernel
theorem dX7_together_6 : decode cX7_together 6 = .ok (.iload_n 2, 1) := by decide +kernel
theorem dX7_together_7 : decode cX7_together 7 = .ok (.iload_n 2, 1) := by decide +kernel
theorem dX7_together_8 : decode cX7_together 8 = .ok (.imul, 1) := by decide +kernel
theorem dX7_together_9 : decode cX7_together 9 = .ok (.idiv, 1) := by decide +kernel
theorem dX7_together_10 : decode cX7_together 10 = .ok (.iadd, 1) := by decide +kernel
theorem dX7_together_11 : decode cX7_together 11 = .ok (.iload_n 2, 1) := by decide +kernel
theorem dX7_together_12 : decode cX7_together 12 = .ok (.irem, 1) := by decide +kernel
theorem dX7_together_13 : decode cX7_together 13 = .ok (.iload_n 2, 1) := by decide +kernel
theorem dX7_together_14 : decode cX7_together 14 = .ok (.imul, 1) := by decide +kernel
theorem dX7_together_15 : decode cX7_together 15 = .ok (.iload_n 2, 1) := by decide +kernel
theorem dX7_together_16 : decode cX7_together 16 = .ok (.imul, 1) := by decide +kernel
theorem dX7_together_17 : decode cX7_together 17 = .ok (.iload_n 0, 1) := by decide +kernel
theorem dX7_together_18 : decode cX7_together 18 = .ok (.iload_n 2, 1) := by decide +kernel
theorem dX7_together_19 : decode cX7_together 19 = .ok (.idiv, 1) := by decide +kernel
theorem dX7_together_20 : decode cX7_together 20 = .ok (.iload_n 2, 1) := by decide +kernel
theorem dX7_together_21 : decode cX7_together 21 = .ok (.irem, 1) := by decide +kernel
theorem dX7_together_22 : decode cX7_together 22 = .ok (.iload_n 1, 1) := by decide +kernel
theorem dX7_together_23 : decode cX7_together 23 = .ok (.iload_n 2, 1) := by decide +kernel
theorem dX7_together_24 : decode cX7_together 24 = .ok (.idiv, 1) := by decide +kernel
theorem dX7_together_25 : decode cX7_together 25 = .ok (.iload_n 2, 1) := by decide +kernel
theorem dX7_together_26 : decode cX7_together 26 = .ok (.irem, 1) := by decide +kernel
theorem dX7_together_27 : decode cX7_together 27 = .ok (.iadd, 1) := by decide +kernel
theorem dX7_together_28 : decode cX7_together 28 = .ok (.iload_n 2, 1) := by decide +kernel
theorem dX7_together_29 : decode cX7_together 29 = .ok (.irem, 1) := by decide +kernel
theorem dX7_together_30 : decode cX7_together 30 = .ok (.iload_n 2, 1) := by decide +kernel
theorem dX7_together_31 : decode cX7_together 31 = .ok (.imul, 1) := by decide +kernel
theorem dX7_together_32 : decode cX7_together 32 = .ok (.iadd, 1) := by decide +kernel
theorem dX7_together_33 : decode cX7_together 33 = .ok (.iload_n 0, 1) := by decide +kernel
theorem dX7_together_34 : decode cX7_together 34 = .ok (.iload_n 2, 1) := by decide +kernel
theorem dX7_together_35 : decode cX7_together 35 = .ok (.irem, 1) := by decide +kernel
theorem dX7_together_36 : decode cX7_together 36 = .ok (.iload_n 1, 1) := by decide +kernel
theorem dX7_together_37 : decode cX7_together 37 = .ok (.iload_n 2, 1) := by decide +kernel
theorem dX7_together_38 : decode cX7_together 38 = .ok (.irem, 1) := by decide +kernel
theorem dX7_together_39 : decode cX7_together 39 = .ok (.iadd, 1) := by decide +kernel
theorem dX7_together_40 : decode cX7_together 40 = .ok (.iload_n 2, 1) := by decide +kernel
theorem dX7_together_41 : decode cX7_together 41 = .ok (.irem, 1) := by decide +kernel
theorem dX7_together_42 : decode cX7_together 42 = .ok (.iadd, 1) := by decide +kernel
theorem dX7_together_43 : decode cX7_together 43 = .ok (.ireturn, 1) := by decide +kernel
theorem dX7_often_0 : decode cX7_often 0 = .ok (.iload_n 0, 1) := by decide +kernel
theorem dX7_often_1 : decode cX7_often 1 = .ok (.iload_n 2, 1) := by decide +kernel
theorem dX7_often_2 : decode cX7_often 2 = .ok (.iload_n 2, 1) := by decide +kernel
theorem dX7_often_3 : decode cX7_often 3 = .ok (.imul, 1) := by decide +kernel
theorem dX7_often_4 : decode cX7_often 4 = .ok (.idiv, 1) := by decide +kernel
theorem dX7_often_5 : decode cX7_often 5 = .ok (.iload_n 1, 1) := by decide +kernel
theorem dX7_often_6 : decode cX7_often 6 = .ok (.imul, 1) := by decide +kernel
theorem dX7_often_7 : decode cX7_often 7 = .ok (.iload_n 2, 1) := by decide +kernel
theorem dX7_often_8 : decode cX7_often 8 = .ok (.irem, 1) := by decide +kernel
theorem dX7_often_9 : decode cX7_often 9 = .ok (.iload_n 2, 1) := by decide +kernel
theorem dX7_often_10 : decode cX7_often 10 = .ok (.imul, 1) := by decide +kernel
theorem dX7_often_11 : decode cX7_often 11 = .ok (.iload_n 2, 1) := by decide +kernel
theorem dX7_often_12 : decode cX7_often 12 = .ok (.imul, 1) := by decide +kernel
theorem dX7_often_13 : decode cX7_often 13 = .ok (.iload_n 0, 1) := by decide +kernel
theorem dX7_often_14 : decode cX7_often 14 = .ok (.iload_n 2, 1) := by decide +kernel
theorem dX7_often_15 : decode cX7_often 15 = .ok (.idiv, 1) := by decide +kernel
theorem dX7_often_16 : decode cX7_often 16 = .ok (.iload_n 2, 1) := by decide +kernel
theorem dX7_often_17 : decode cX7_often 17 = .ok (.irem, 1) := by decide +kernel
theorem dX7_often_18 : decode cX7_often 18 = .ok (.iload_n 1, 1) := by decide +kernel
theorem dX7_often_19 : decode cX7_often 19 = .ok (.imul, 1) := by decide +kernel
