theorem dX7_snap_78 : decode cX7_snap 78 = .ok (.return_, 1) := by decide +kernel
theorem dX7_comes_0 : decode cX7_comes 0 = .ok (.aload_n 0, 1) := by decide +kernel
theorem dX7_comes_1 : decode cX7_comes 1 = .ok (.invokevirtual 223, 3) := by decide +kernel
theorem dX7_comes_4 : decode cX7_comes 4 = .ok (.aload_n 0, 1) := by decide +kernel
theorem dX7_comes_5 : decode cX7_comes 5 = .ok (.getfield 86, 3) := by decide +kernel
theorem dX7_comes_8 : decode cX7_comes 8 = .ok (.aload_n 1, 1) := by decide +kernel
theorem dX7_comes_9 : decode cX7_comes 9 = .ok (.iload_n 2, 1) := by decide +kernel
theorem dX7_comes_10 : decode cX7_comes 10 = .ok (.invokestatic 136, 3) := by decide +kernel
theorem dX7_comes_13 : decode cX7_comes 13 = .ok (.aload_n 0, 1) := by decide +kernel
theorem dX7_comes_14 : decode cX7_comes 14 = .ok (.iload_n 2, 1) := by decide +kernel
theorem dX7_comes_15 : decode cX7_comes 15 = .ok (.invokevirtual 205, 3) := by decide +kernel
theorem dX7_comes_18 : decode cX7_comes 18 = .ok (.ireturn, 1) := by decide +kernel
theorem dX7_come_0 : decode cX7_come 0 = .ok (.aload_n 0, 1) := by decide +kernel
theorem dX7_come_1 : decode cX7_come 1 = .ok (.iconst 0, 1) := by decide +kernel
theorem dX7_come_2 : decode cX7_come 2 = .ok (.putfield 1, 3) := by decide +kernel
theorem dX7_come_5 : decode cX7_come 5 = .ok (.aload_n 0, 1) := by decide +kernel
theorem dX7_come_6 : decode cX7_come 6 = .ok (.iload_n 1, 1) := by decide +kernel
theorem dX7_come_7 : decode cX7_come 7 = .ok (.invokevirtual 199, 3) := by decide +kernel
theorem dX7_come_10 : decode cX7_come 10 = .ok (.ifCond .eq 15, 3) := by decide +kernel
theorem dX7_come_13 : decode cX7_come 13 = .ok (.aload_n 0, 1) := by decide +kernel
theorem dX7_come_14 : decode cX7_come 14 = .ok (.iload_n 2, 1) := by decide +kernel
theorem dX7_come_15 : decode cX7_come 15 = .ok (.iload_n 3, 1) := by decide +kernel
theorem dX7_come_16 : decode cX7_come 16 = .ok (.iload 4, 2) := by decide +kernel
theorem dX7_come_18 : decode cX7_come 18 = .ok (.invokevirtual 211, 3) := by decide +kernel
theorem dX7_come_21 : decode cX7_come 21 = .ok (.iconst (-1), 1) := by decide +kernel
theorem dX7_come_22 : decode cX7_come 22 = .ok (.if_icmp .ne 5, 3) := by decide +kernel
theorem dX7_come_25 : decode cX7_come 25 = .ok (.iconst (-1), 1) := by decide +kernel
theorem dX7_come_26 : decode cX7_come 26 = .ok (.ireturn, 1) := by decide +kernel
theorem dX7_come_27 : decode cX7_come 27 = .ok (.aload_n 0, 1) := by decide +kernel
theorem dX7_come_28 : decode cX7_come 28 = .ok (.aload_n 0, 1) := by decide +kernel
theorem dX7_come_29 : decode cX7_come 29 = .ok (.getfield 86, 3) := by decide +kernel
theorem dX7_come_32 : decode cX7_come 32 = .ok (.iload_n 1, 1) := by decide +kernel
theorem dX7_come_33 : decode cX7_come 33 = .ok (.aload_n 0, 1) := by decide +kernel
theorem dX7_come_34 : decode cX7_come 34 = .ok (.getfield 102, 3) := by decide +kernel
theorem dX7_come_37 : decode cX7_come 37 = .ok (.invokevirtual 128, 3) := by decide +kernel
theorem dX7_come_40 : decode cX7_come 40 = .ok (.aload_n 0, 1) := by decide +kernel
theorem dX7_come_41 : decode cX7_come 41 = .ok (.aload_n 0, 1) := by decide +kernel
theorem dX7_come_42 : decode cX7_come 42 = .ok (.getfield 86, 3) := by decide +kernel
theorem dX7_come_45 : decode cX7_come 45 = .ok (.aload_n 0, 1) := by decide +kernel
theorem dX7_come_46 : decode cX7_come 46 = .ok (.getfield 102, 3) := by decide +kernel
theorem dX7_come_49 : decode cX7_come 49 = .ok (.aload_n 0, 1) := by decide +kernel
theorem dX7_come_50 : decode cX7_come 50 = .ok (.iload_n 2, 1) := by decide +kernel
theorem dX7_come_51 : decode cX7_come 51 = .ok (.iload_n 3, 1) := by decide +kernel
theorem dX7_come_52 : decode cX7_come 52 = .ok (.iload 4, 2) := by decide +kernel
theorem dX7_come_54 : decode cX7_come 54 = .ok (.invokevirtual 211, 3) := by decide +kernel
theorem dX7_come_57 : decode cX7_come 57 = .ok (.invokevirtual 132, 3) := by decide +kernel
theorem dX7_come_60 : decode cX7_come 60 = .ok (.aload_n 0, 1) := by decide +kernel
theorem dX7_come_61 : decode cX7_come 61 = .ok (.aload_n 0, 1) := by decide +kernel
theorem dX7_come_62 : decode cX7_come 62 = .ok (.getfield 102, 3) := by decide +kernel
theorem dX7_come_65 : decode cX7_come 65 = .ok (.iload_n 1, 1) := by decide +kernel
theorem dX7_come_66 : decode cX7_come 66 = .ok (.invokevirtual 226, 3) := by decide +kernel
theorem dX7_come_69 : decode cX7_come 69 = .ok (.ireturn, 1) := by decide +kernel
theorem dX7_isRow_0 : decode cX7_isRow 0 = .ok (.iload_n 1, 1) := by decide +kernel
theorem dX7_isRow_1 : decode cX7_isRow 1 = .ok (.aload_n 0, 1) := by decide +kernel
theorem dX7_isRow_2 : decode cX7_isRow 2 = .ok (.getfield 86, 3) := by decide +kernel
theorem dX7_isRow_5 : decode cX7_isRow 5 = .ok (.invokestatic 230, 3) := by decide +kernel
theorem dX7_isRow_8 : decode cX7_isRow 8 = .ok (.irem, 1) := by decide +kernel
theorem dX7_isRow_9 : decode cX7_isRow 9 = .ok (.ifCond .ne 7, 3) := by decide +kernel
theorem dX7_isRow_12 : decode cX7_isRow 12 = .ok (.iconst 1, 1) := by decide +kernel
theorem dX7_isRow_13 : decode cX7_isRow 13 = .ok (.goto 4, 3) := by decide +kernel
theorem dX7_isRow_16 : decode cX7_isRow 16 = .ok (.iconst 0, 1) := by decide +kernel
theorem dX7_isRow_17 : decode cX7_isRow 17 = .ok (.ireturn, 1) := by decide +kernel
theorem dX7_clear_0 : decode cX7_clear 0 = .ok (.aload_n 0, 1) := by decide +kernel
theorem dX7_clear_1 : decode cX7_clear 1 = .ok (.iconst 0, 1) := by decide +kernel
theorem dX7_clear_2 : decode cX7_clear 2 = .ok (.putfield 1, 3) := by decide +kernel
theorem dX7_clear_5 : decode cX7_clear 5 = .ok (.aload_n 0, 1) := by decide +kernel
theorem dX7_clear_6 : decode cX7_clear 6 = .ok (.iload_n 1, 1) := by decide +kernel
theorem dX7_clear_7 : decode cX7_clear 7 = .ok (.invokevirtual 199, 3) := by decide +kernel
theorem dX7_clear_10 : decode cX7_clear 10 = .ok (.ifCond .ne 5, 3) := by decide +kernel
theorem dX7_clear_13 : decode cX7_clear 13 = .ok (.iconst (-1), 1) := by decide +kernel
theorem dX7_clear_14 : decode cX7_clear 14 = .ok (.ireturn, 1) := by decide +kernel
theorem dX7_clear_15 : decode cX7_clear 15 = .ok (.aload_n 0, 1) := by decide +kernel
theorem dX7_clear_16 : decode cX7_clear 16 = .ok (.aload_n 0, 1) := by decide +kernel
theorem dX7_clear_17 : decode cX7_clear 17 = .ok (.getfield 102, 3) := by decide +kernel
theorem dX7_clear_20 : decode cX7_clear 20 = .ok (.invokevirtual 187, 3) := by decide +kernel
theorem dX7_clear_23 : decode cX7_clear 23 = .ok (.iconst 0, 1) := by decide +kernel
theorem dX7_clear_24 : decode cX7_clear 24 = .ok (.istore_n 3, 1) := by decide +kernel
theorem dX7_clear_25 : decode cX7_clear 25 = .ok (.iload_n 3, 1) := by decide +kernel
theorem dX7_clear_26 : decode cX7_clear 26 = .ok (.aload_n 0, 1) := by decide +kernel
theorem dX7_clear_27 : decode cX7_clear 27 = .ok (.getfield 86, 3) := by decide +kernel
theorem dX7_clear_30 : decode cX7_clear 30 = .ok (.invokestatic 233, 3) := by decide +kernel
theorem dX7_clear_33 : decode cX7_clear 33 = .ok (.if_icmp .ge 36, 3) := by decide +kernel
theorem dX7_clear_36 : decode cX7_clear 36 = .ok (.aload_n 0, 1) := by decide +kernel
theorem dX7_clear_37 : decode cX7_clear 37 = .ok (.getfield 102, 3) := by decide +kernel
theorem dX7_clear_40 : decode cX7_clear 40 = .ok (.iload_n 3, 1) := by decide +kernel
theorem dX7_clear_41 : decode cX7_clear 41 = .ok (.iload_n 3, 1) := by decide +kernel
theorem dX7_clear_42 : decode cX7_clear 42 = .ok (.ifCond .eq 15, 3) := by decide +kernel
theorem dX7_clear_45 : decode cX7_clear 45 = .ok (.iload_n 2, 1) := by decide +kernel
theorem dX7_clear_46 : decode cX7_clear 46 = .ok (.ifCond .eq 15, 3) := by decide +kernel
theorem dX7_clear_49 : decode cX7_clear 49 = .ok (.aload_n 0, 1) := by decide +kernel
theorem dX7_clear_50 : decode cX7_clear 50 = .ok (.iload_n 3, 1) := by decide +kernel
theorem dX7_clear_51 : decode cX7_clear 51 = .ok (.invokevirtual 236, 3) := by decide +kernel
theorem dX7_clear_54 : decode cX7_clear 54 = .ok (.ifCond .eq 7, 3) := by decide +kernel
theorem dX7_clear_57 : decode cX7_clear 57 = .ok (.iconst 1, 1) := by decide +kernel
theorem dX7_clear_58 : decode cX7_clear 58 = .ok (.goto 4, 3) := by decide +kernel
theorem dX7_clear_61 : decode cX7_clear 61 = .ok (.iconst 0, 1) := by decide +kernel
theorem dX7_clear_62 : decode cX7_clear 62 = .ok (.bastore, 1) := by decide +kernel
theorem dX7_clear_63 : decode cX7_clear 63 = .ok (.iinc 3 1, 3) := by decide +kernel
theorem dX7_clear_66 : decode cX7_clear 66 = .ok (.goto (-41), 3) := by decide +kernel
theorem dX7_clear_69 : decode cX7_clear 69 = .ok (.aload_n 0, 1) := by decide +kernel
theorem dX7_clear_70 : decode cX7_clear 70 = .ok (.aload_n 0, 1) := by decide +kernel
theorem dX7_clear_71 : decode cX7_clear 71 = .ok (.getfield 102, 3) := by decide +kernel
theorem dX7_clear_74 : decode cX7_clear 74 = .ok (.iload_n 1, 1) := by decide +kernel
theorem dX7_clear_75 : decode cX7_clear 75 = .ok (.invokevirtual 226, 3) := by decide +kernel
theorem dX7_clear_78 : decode cX7_clear 78 = .ok (.ireturn, 1) := by decide +kernel
theorem dX7_join_0 : decode cX7_join 0 = .ok (.aload_n 0, 1) := by decide +kernel
theorem dX7_join_1 : decode cX7_join 1 = .ok (.iconst 0, 1) := by decide +kernel
theorem dX7_join_2 : decode cX7_join 2 = .ok (.putfield 1, 3) := by decide +kernel
theorem dX7_join_5 : decode cX7_join 5 = .ok (.aload_n 0, 1) := by decide +kernel
theorem dX7_join_6 : decode cX7_join 6 = .ok (.iload_n 1, 1) := by decide +kernel
theorem dX7_join_7 : decode cX7_join 7 = .ok (.invokevirtual 199, 3) := by decide +kernel
theorem dX7_join_10 : decode cX7_join 10 = .ok (.ifCond .eq 20, 3) := by decide +kernel
theorem dX7_join_13 : decode cX7_join 13 = .ok (.aload_n 0, 1) := by decide +kernel
theorem dX7_join_14 : decode cX7_join 14 = .ok (.iload_n 2, 1) := by decide +kernel
theorem dX7_join_15 : decode cX7_join 15 = .ok (.invokevirtual 199, 3) := by decide +kernel
theorem dX7_join_18 : decode cX7_join 18 = .ok (.ifCond .eq 12, 3) := by decide +kernel
theorem dX7_join_21 : decode cX7_join 21 = .ok (.aload_n 0, 1) := by decide +kernel
theorem dX7_join_22 : decode cX7_join 22 = .ok (.iload 4, 2) := by decide +kernel
theorem dX7_join_24 : decode cX7_join 24 = .ok (.invokevirtual 199, 3) := by decide +kernel
theorem dX7_join_27 : decode cX7_join 27 = .ok (.ifCond .ne 5, 3) := by decide +kernel
theorem dX7_join_30 : decode cX7_join 30 = .ok (.iconst (-1), 1) := by decide +kernel
theorem dX7_join_31 : decode cX7_join 31 = .ok (.ireturn, 1) := by decide +kernel
theorem dX7_join_32 : decode cX7_join 32 = .ok (.iload_n 3, 1) := by decide +kernel
theorem dX7_join_33 : decode cX7_join 33 = .ok (.ifCond .eq 16, 3) := by decide +kernel
theorem dX7_join_36 : decode cX7_join 36 = .ok (.aload_n 0, 1) := by decide +kernel
theorem dX7_join_37 : decode cX7_join 37 = .ok (.aload_n 0, 1) := by decide +kernel
theorem dX7_join_38 : decode cX7_join 38 = .ok (.getfield 86, 3) := by decide +kernel
theorem dX7_join_41 : decode cX7_join 41 = .ok (.iload_n 2, 1) := by decide +kernel
theorem dX7_join_42 : decode cX7_join 42 = .ok (.aload_n 0, 1) := by decide +kernel
theorem dX7_join_43 : decode cX7_join 43 = .ok (.getfield 105, 3) := by decide +kernel
theorem dX7_join_46 : decode cX7_join 46 = .ok (.invokevirtual 128, 3) := by decide +kernel
theorem dX7_join_49 : decode cX7_join 49 = .ok (.aload_n 0, 1) := by decide +kernel
theorem dX7_join_50 : decode cX7_join 50 = .ok (.aload_n 0, 1) := by decide +kernel
theorem dX7_join_51 : decode cX7_join 51 = .ok (.getfield 86, 3) := by decide +kernel
theorem dX7_join_54 : decode cX7_join 54 = .ok (.iload_n 1, 1) := by decide +kernel
theorem dX7_join_55 : decode cX7_join 55 = .ok (.aload_n 0, 1) := by decide +kernel
theorem dX7_join_56 : decode cX7_join 56 = .ok (.getfield 102, 3) := by decide +kernel
theorem dX7_join_59 : decode cX7_join 59 = .ok (.invokevirtual 128, 3) := by decide +kernel
theorem dX7_join_62 : decode cX7_join 62 = .ok (.iload_n 3, 1) := by decide +kernel
theorem dX7_join_63 : decode cX7_join 63 = .ok (.ifCond .eq 59, 3) := by decide +kernel
theorem dX7_join_66 : decode cX7_join 66 = .ok (.iconst 0, 1) := by decide +kernel
theorem dX7_join_67 : decode cX7_join 67 = .ok (.istore 5, 2) := by decide +kernel
theorem dX7_join_69 : decode cX7_join 69 = .ok (.iload 5, 2) := by decide +kernel
theorem dX7_join_71 : decode cX7_join 71 = .ok (.aload_n 0, 1) := by decide +kernel
theorem dX7_join_72 : decode cX7_join 72 = .ok (.getfield 86, 3) := by decide +kernel
theorem dX7_join_75 : decode cX7_join 75 = .ok (.invokestatic 233, 3) := by decide +kernel
theorem dX7_join_78 : decode cX7_join 78 = .ok (.if_icmp .ge 41, 3) := by decide +kernel
theorem dX7_join_81 : decode cX7_join 81 = .ok (.aload_n 0, 1) := by decide +kernel
theorem dX7_join_82 : decode cX7_join 82 = .ok (.getfield 102, 3) := by decide +kernel
theorem dX7_join_85 : decode cX7_join 85 = .ok (.iload 5, 2) := by decide +kernel
theorem dX7_join_87 : decode cX7_join 87 = .ok (.aload_n 0, 1) := by decide +kernel
theorem dX7_join_88 : decode cX7_join 88 = .ok (.getfield 102, 3) := by decide +kernel
theorem dX7_join_91 : decode cX7_join 91 = .ok (.iload 5, 2) := by decide +kernel
theorem dX7_join_93 : decode cX7_join 93 = .ok (.baload, 1) := by decide +kernel
theorem dX7_join_94 : decode cX7_join 94 = .ok (.ifCond .eq 17, 3) := by decide +kernel
theorem dX7_join_97 : decode cX7_join 97 = .ok (.aload_n 0, 1) := by decide +kernel
theorem dX7_join_98 : decode cX7_join 98 = .ok (.getfield 105, 3) := by decide +kernel
theorem dX7_join_101 : decode cX7_join 101 = .ok (.iload 5, 2) := by decide +kernel
theorem dX7_join_103 : decode cX7_join 103 = .ok (.baload, 1) := by decide +kernel
theorem dX7_join_104 : decode cX7_join 104 = .ok (.ifCond .eq 7, 3) := by decide +kernel
theorem dX7_join_107 : decode cX7_join 107 = .ok (.iconst 1, 1) := by decide +kernel
theorem dX7_join_108 : decode cX7_join 108 = .ok (.goto 4, 3) := by decide +kernel
theorem dX7_join_111 : decode cX7_join 111 = .ok (.iconst 0, 1) := by decide +kernel
theorem dX7_join_112 : decode cX7_join 112 = .ok (.bastore, 1) := by decide +kernel
theorem dX7_join_113 : decode cX7_join 113 = .ok (.iinc 5 1, 3) := by decide +kernel
theorem dX7_join_116 : decode cX7_join 116 = .ok (.goto (-47), 3) := by decide +kernel
theorem dX7_join_119 : decode cX7_join 119 = .ok (.goto 43, 3) := by decide +kernel
theorem dX7_join_122 : decode cX7_join 122 = .ok (.iconst 0, 1) := by decide +kernel
theorem dX7_join_123 : decode cX7_join 123 = .ok (.istore 5, 2) := by decide +kernel
theorem dX7_join_125 : decode cX7_join 125 = .ok (.iload 5, 2) := by decide +kernel
theorem dX7_join_127 : decode cX7_join 127 = .ok (.iconst 3, 1) := by decide +kernel
theorem dX7_join_128 : decode cX7_join 128 = .ok (.if_icmp .ge 34, 3) := by decide +kernel
theorem dX7_join_131 : decode cX7_join 131 = .ok (.aload_n 0, 1) := by decide +kernel
theorem dX7_join_132 : decode cX7_join 132 = .ok (.aload_n 0, 1) := by decide +kernel
theorem dX7_join_133 : decode cX7_join 133 = .ok (.getfield 86, 3) := by decide +kernel
theorem dX7_join_136 : decode cX7_join 136 = .ok (.aload_n 0, 1) := by decide +kernel
theorem dX7_join_137 : decode cX7_join 137 = .ok (.getfield 102, 3) := by decide +kernel
theorem dX7_join_140 : decode cX7_join 140 = .ok (.aload_n 0, 1) := by decide +kernel
theorem dX7_join_141 : decode cX7_join 141 = .ok (.getfield 86, 3) := by decide +kernel
theorem dX7_join_144 : decode cX7_join 144 = .ok (.iconst 2, 1) := by decide +kernel
theorem dX7_join_145 : decode cX7_join 145 = .ok (.iconst 3, 1) := by decide +kernel
theorem dX7_join_146 : decode cX7_join 146 = .ok (.iload_n 2, 1) := by decide +kernel
theorem dX7_join_147 : decode cX7_join 147 = .ok (.imul, 1) := by decide +kernel
theorem dX7_join_148 : decode cX7_join 148 = .ok (.iadd, 1) := by decide +kernel
theorem dX7_join_149 : decode cX7_join 149 = .ok (.iload 5, 2) := by decide +kernel
theorem dX7_join_151 : decode cX7_join 151 = .ok (.iadd, 1) := by decide +kernel
theorem dX7_join_152 : decode cX7_join 152 = .ok (.iaload, 1) := by decide +kernel
theorem dX7_join_153 : decode cX7_join 153 = .ok (.invokevirtual 132, 3) := by decide +kernel
theorem dX7_join_156 : decode cX7_join 156 = .ok (.iinc 5 1, 3) := by decide +kernel
theorem dX7_join_159 : decode cX7_join 159 = .ok (.goto (-34), 3) := by decide +kernel
theorem dX7_join_162 : decode cX7_join 162 = .ok (.aload_n 0, 1) := by decide +kernel
theorem dX7_join_163 : decode cX7_join 163 = .ok (.aload_n 0, 1) := by decide +kernel
theorem dX7_join_164 : decode cX7_join 164 = .ok (.getfield 102, 3) := by decide +kernel
theorem dX7_join_167 : decode cX7_join 167 = .ok (.iload 4, 2) := by decide +kernel
theorem dX7_join_169 : decode cX7_join 169 = .ok (.invokevirtual 226, 3) := by decide +kernel
theorem dX7_join_172 : decode cX7_join 172 = .ok (.ireturn, 1) := by decide +kernel
theorem dX7_isUpright_0 : decode cX7_isUpright 0 = .ok (.iconst 0, 1) := by decide +kernel
theorem dX7_isUpright_1 : decode cX7_isUpright 1 = .ok (.istore_n 3, 1) := by decide +kernel
theorem dX7_isUpright_2 : decode cX7_isUpright 2 = .ok (.iload_n 3, 1) := by decide +kernel
theorem dX7_isUpright_3 : decode cX7_isUpright 3 = .ok (.iconst 3, 1) := by decide +kernel
theorem dX7_isUpright_4 : decode cX7_isUpright 4 = .ok (.if_icmp .ge 30, 3) := by decide +kernel
theorem dX7_isUpright_7 : decode cX7_isUpright 7 = .ok (.aload_n 0, 1) := by decide +kernel
theorem dX7_isUpright_8 : decode cX7_isUpright 8 = .ok (.getfield 86, 3) := by decide +kernel
theorem dX7_isUpright_11 : decode cX7_isUpright 11 = .ok (.iload_n 2, 1) := by decide +kernel
theorem dX7_isUpright_12 : decode cX7_isUpright 12 = .ok (.iload_n 3, 1) := by decide +kernel
theorem dX7_isUpright_13 : decode cX7_isUpright 13 = .ok (.iadd, 1) := by decide +kernel
theorem dX7_isUpright_14 : decode cX7_isUpright 14 = .ok (.iaload, 1) := by decide +kernel
theorem dX7_isUpright_15 : decode cX7_isUpright 15 = .ok (.iload_n 1, 1) := by decide +kernel
theorem dX7_isUpright_16 : decode cX7_isUpright 16 = .ok (.aload_n 0, 1) := by decide +kernel
theorem dX7_isUpright_17 : decode cX7_isUpright 17 = .ok (.invokevirtual 195, 3) := by decide +kernel
theorem dX7_isUpright_20 : decode cX7_isUpright 20 = .ok (.invokestatic 239, 3) := by decide +kernel
theorem dX7_isUpright_23 : decode cX7_isUpright 23 = .ok (.ifCond .eq 5, 3) := by decide +kernel
theorem dX7_isUpright_26 : decode cX7_isUpright 26 = .ok (.iconst 0, 1) := by decide +kernel
theorem dX7_isUpright_27 : decode cX7_isUpright 27 = .ok (.ireturn, 1) := by decide +kernel
theorem dX7_isUpright_28 : decode cX7_isUpright 28 = .ok (.iinc 3 1, 3) := by decide +kernel
theorem dX7_isUpright_31 : decode cX7_isUpright 31 = .ok (.goto (-29), 3) := by decide +kernel
theorem dX7_isUpright_34 : decode cX7_isUpright 34 = .ok (.iconst 1, 1) := by decide +kernel
theorem dX7_isUpright_35 : decode cX7_isUpright 35 = .ok (.ireturn, 1) := by decide +kernel
theorem dX7_comesUpright_0 : decode cX7_comesUpright 0 = .ok (.iconst 0, 1) := by decide +kernel
theorem dX7_comesUpright_1 : decode cX7_comesUpright 1 = .ok (.istore_n 3, 1) := by decide +kernel
theorem dX7_comesUpright_2 : decode cX7_comesUpright 2 = .ok (.iload_n 3, 1) := by decide +kernel
theorem dX7_comesUpright_3 : decode cX7_comesUpright 3 = .ok (.aload_n 0, 1) := by decide +kernel
theorem dX7_comesUpright_4 : decode cX7_comesUpright 4 = .ok (.getfield 86, 3) := by decide +kernel
theorem dX7_comesUpright_7 : decode cX7_comesUpright 7 = .ok (.invokestatic 233, 3) := by decide +kernel
theorem dX7_comesUpright_10 : decode cX7_comesUpright 10 = .ok (.if_icmp .ge 37, 3) := by decide +kernel
theorem dX7_comesUpright_13 : decode cX7_comesUpright 13 = .ok (.aload_n 0, 1) := by decide +kernel
theorem dX7_comesUpright_14 : decode cX7_comesUpright 14 = .ok (.getfield 102, 3) := by decide +kernel
theorem dX7_comesUpright_17 : decode cX7_comesUpright 17 = .ok (.iload_n 3, 1) := by decide +kernel
theorem dX7_comesUpright_18 : decode cX7_comesUpright 18 = .ok (.aload_n 0, 1) := by decide +kernel
theorem dX7_comesUpright_19 : decode cX7_comesUpright 19 = .ok (.iload_n 3, 1) := by decide +kernel
theorem dX7_comesUpright_20 : decode cX7_comesUpright 20 = .ok (.invokevirtual 236, 3) := by decide +kernel
theorem dX7_comesUpright_23 : decode cX7_comesUpright 23 = .ok (.ifCond .eq 16, 3) := by decide +kernel
theorem dX7_comesUpright_26 : decode cX7_comesUpright 26 = .ok (.aload_n 0, 1) := by decide +kernel
theorem dX7_comesUpright_27 : decode cX7_comesUpright 27 = .ok (.iload_n 3, 1) := by decide +kernel
theorem dX7_comesUpright_28 : decode cX7_comesUpright 28 = .ok (.iload_n 1, 1) := by decide +kernel
theorem dX7_comesUpright_29 : decode cX7_comesUpright 29 = .ok (.invokevirtual 242, 3) := by decide +kernel
theorem dX7_comesUpright_32 : decode cX7_comesUpright 32 = .ok (.ifCond .eq 7, 3) := by decide +kernel
theorem dX7_comesUpright_35 : decode cX7_comesUpright 35 = .ok (.iconst 1, 1) := by decide +kernel
theorem dX7_comesUpright_36 : decode cX7_comesUpright 36 = .ok (.goto 4, 3) := by decide +kernel
theorem dX7_comesUpright_39 : decode cX7_comesUpright 39 = .ok (.iconst 0, 1) := by decide +kernel
theorem dX7_comesUpright_40 : decode cX7_comesUpright 40 = .ok (.bastore, 1) := by decide +kernel
theorem dX7_comesUpright_41 : decode cX7_comesUpright 41 = .ok (.iinc 3 1, 3) := by decide +kernel
theorem dX7_comesUpright_44 : decode cX7_comesUpright 44 = .ok (.goto (-42), 3) := by decide +kernel
theorem dX7_comesUpright_47 : decode cX7_comesUpright 47 = .ok (.aload_n 0, 1) := by decide +kernel
theorem dX7_comesUpright_48 : decode cX7_comesUpright 48 = .ok (.aload_n 0, 1) := by decide +kernel
theorem dX7_comesUpright_49 : decode cX7_comesUpright 49 = .ok (.getfield 102, 3) := by decide +kernel
theorem dX7_comesUpright_52 : decode cX7_comesUpright 52 = .ok (.iload_n 2, 1) := by decide +kernel
theorem dX7_comesUpright_53 : decode cX7_comesUpright 53 = .ok (.invokevirtual 226, 3) := by decide +kernel
theorem dX7_comesUpright_56 : decode cX7_comesUpright 56 = .ok (.ireturn, 1) := by decide +kernel
theorem dX7_upright_0 : decode cX7_upright 0 = .ok (.aload_n 0, 1) := by decide +kernel
theorem dX7_upright_1 : decode cX7_upright 1 = .ok (.iconst 0, 1) := by decide +kernel
theorem dX7_upright_2 : decode cX7_upright 2 = .ok (.putfield 1, 3) := by decide +kernel
theorem dX7_upright_5 : decode cX7_upright 5 = .ok (.aload_n 0, 1) := by decide +kernel
theorem dX7_upright_6 : decode cX7_upright 6 = .ok (.iload_n 1, 1) := by decide +kernel
theorem dX7_upright_7 : decode cX7_upright 7 = .ok (.invokevirtual 199, 3) := by decide +kernel
theorem dX7_upright_10 : decode cX7_upright 10 = .ok (.ifCond .eq 24, 3) := by decide +kernel
theorem dX7_upright_13 : decode cX7_upright 13 = .ok (.aload_n 0, 1) := by decide +kernel
theorem dX7_upright_14 : decode cX7_upright 14 = .ok (.iload_n 2, 1) := by decide +kernel
theorem dX7_upright_15 : decode cX7_upright 15 = .ok (.invokevirtual 199, 3) := by decide +kernel
theorem dX7_upright_18 : decode cX7_upright 18 = .ok (.ifCond .eq 16, 3) := by decide +kernel
theorem dX7_upright_21 : decode cX7_upright 21 = .ok (.aload_n 0, 1) := by decide +kernel
theorem dX7_upright_22 : decode cX7_upright 22 = .ok (.iconst 2, 1) := by decide +kernel
theorem dX7_upright_23 : decode cX7_upright 23 = .ok (.iconst 3, 1) := by decide +kernel
theorem dX7_upright_24 : decode cX7_upright 24 = .ok (.iload_n 1, 1) := by decide +kernel
theorem dX7_upright_25 : decode cX7_upright 25 = .ok (.imul, 1) := by decide +kernel
theorem dX7_upright_26 : decode cX7_upright 26 = .ok (.iadd, 1) := by decide +kernel
theorem dX7_upright_27 : decode cX7_upright 27 = .ok (.iload_n 2, 1) := by decide +kernel
theorem dX7_upright_28 : decode cX7_upright 28 = .ok (.invokevirtual 246, 3) := by decide +kernel
theorem dX7_upright_31 : decode cX7_upright 31 = .ok (.goto 4, 3) := by decide +kernel
theorem dX7_upright_34 : decode cX7_upright 34 = .ok (.iconst (-1), 1) := by decide +kernel
theorem dX7_upright_35 : decode cX7_upright 35 = .ok (.ireturn, 1) := by decide +kernel
theorem dX7_times_0 : decode cX7_times 0 = .ok (.aload_n 0, 1) := by decide +kernel
theorem dX7_times_1 : decode cX7_times 1 = .ok (.iconst 0, 1) := by decide +kernel
theorem dX7_times_2 : decode cX7_times 2 = .ok (.putfield 1, 3) := by decide +kernel
theorem dX7_times_5 : decode cX7_times 5 = .ok (.aload_n 0, 1) := by decide +kernel
theorem dX7_times_6 : decode cX7_times 6 = .ok (.iload_n 1, 1) := by decide +kernel
theorem dX7_times_7 : decode cX7_times 7 = .ok (.invokevirtual 199, 3) := by decide +kernel
theorem dX7_times_10 : decode cX7_times 10 = .ok (.ifCond .eq 26, 3) := by decide +kernel
theorem dX7_times_13 : decode cX7_times 13 = .ok (.aload_n 0, 1) := by decide +kernel
theorem dX7_times_14 : decode cX7_times 14 = .ok (.iload 4, 2) := by decide +kernel
theorem dX7_times_16 : decode cX7_times 16 = .ok (.invokevirtual 199, 3) := by decide +kernel
theorem dX7_times_19 : decode cX7_times 19 = .ok (.ifCond .eq 17, 3) := by decide +kernel
theorem dX7_times_22 : decode cX7_times 22 = .ok (.iload_n 2, 1) := by decide +kernel
theorem dX7_times_23 : decode cX7_times 23 = .ok (.iconst 0, 1) := by decide +kernel
theorem dX7_times_24 : decode cX7_times 24 = .ok (.aload_n 0, 1) := by decide +kernel
theorem dX7_times_25 : decode cX7_times 25 = .ok (.invokevirtual 195, 3) := by decide +kernel
theorem dX7_times_28 : decode cX7_times 28 = .ok (.iconst 1, 1) := by decide +kernel
theorem dX7_times_29 : decode cX7_times 29 = .ok (.isub, 1) := by decide +kernel
theorem dX7_times_30 : decode cX7_times 30 = .ok (.invokestatic 117, 3) := by decide +kernel
theorem dX7_times_33 : decode cX7_times 33 = .ok (.ifCond .ne 5, 3) := by decide +kernel
theorem dX7_times_36 : decode cX7_times 36 = .ok (.iconst (-1), 1) := by decide +kernel
theorem dX7_times_37 : decode cX7_times 37 = .ok (.ireturn, 1) := by decide +kernel
theorem dX7_times_38 : decode cX7_times 38 = .ok (.aload_n 0, 1) := by decide +kernel
theorem dX7_times_39 : decode cX7_times 39 = .ok (.aload_n 0, 1) := by decide +kernel
theorem dX7_times_40 : decode cX7_times 40 = .ok (.getfield 86, 3) := by decide +kernel
theorem dX7_times_43 : decode cX7_times 43 = .ok (.iload_n 1, 1) := by decide +kernel
theorem dX7_times_44 : decode cX7_times 44 = .ok (.aload_n 0, 1) := by decide +kernel
theorem dX7_times_45 : decode cX7_times 45 = .ok (.getfield 102, 3) := by decide +kernel
theorem dX7_times_48 : decode cX7_times 48 = .ok (.invokevirtual 128, 3) := by decide +kernel
theorem dX7_times_51 : decode cX7_times 51 = .ok (.iload_n 3, 1) := by decide +kernel
theorem dX7_times_52 : decode cX7_times 52 = .ok (.ifCond .eq 66, 3) := by decide +kernel
theorem dX7_times_55 : decode cX7_times 55 = .ok (.iconst 0, 1) := by decide +kernel
theorem dX7_times_56 : decode cX7_times 56 = .ok (.istore 5, 2) := by decide +kernel
theorem dX7_times_58 : decode cX7_times 58 = .ok (.iload 5, 2) := by decide +kernel
theorem dX7_times_60 : decode cX7_times 60 = .ok (.aload_n 0, 1) := by decide +kernel
theorem dX7_times_61 : decode cX7_times 61 = .ok (.getfield 86, 3) := by decide +kernel
theorem dX7_times_64 : decode cX7_times 64 = .ok (.invokestatic 233, 3) := by decide +kernel
theorem dX7_times_67 : decode cX7_times 67 = .ok (.if_icmp .ge 48, 3) := by decide +kernel
theorem dX7_times_70 : decode cX7_times 70 = .ok (.aload_n 0, 1) := by decide +kernel
theorem dX7_times_71 : decode cX7_times 71 = .ok (.getfield 105, 3) := by decide +kernel
theorem dX7_times_74 : decode cX7_times 74 = .ok (.iload 5, 2) := by decide +kernel
theorem dX7_times_76 : decode cX7_times 76 = .ok (.aload_n 0, 1) := by decide +kernel
theorem dX7_times_77 : decode cX7_times 77 = .ok (.iload 5, 2) := by decide +kernel
theorem dX7_times_79 : decode cX7_times 79 = .ok (.invokevirtual 236, 3) := by decide +kernel
theorem dX7_times_82 : decode cX7_times 82 = .ok (.ifCond .eq 25, 3) := by decide +kernel
theorem dX7_times_85 : decode cX7_times 85 = .ok (.aload_n 0, 1) := by decide +kernel
theorem dX7_times_86 : decode cX7_times 86 = .ok (.getfield 102, 3) := by decide +kernel
theorem dX7_times_89 : decode cX7_times 89 = .ok (.iload 5, 2) := by decide +kernel
theorem dX7_times_91 : decode cX7_times 91 = .ok (.iload_n 2, 1) := by decide +kernel
theorem dX7_times_92 : decode cX7_times 92 = .ok (.aload_n 0, 1) := by decide +kernel
theorem dX7_times_93 : decode cX7_times 93 = .ok (.invokevirtual 195, 3) := by decide +kernel
theorem dX7_times_96 : decode cX7_times 96 = .ok (.invokestatic 214, 3) := by decide +kernel
theorem dX7_times_99 : decode cX7_times 99 = .ok (.baload, 1) := by decide +kernel
theorem dX7_times_100 : decode cX7_times 100 = .ok (.ifCond .eq 7, 3) := by decide +kernel
theorem dX7_times_103 : decode cX7_times 103 = .ok (.iconst 1, 1) := by decide +kernel
theorem dX7_times_104 : decode cX7_times 104 = .ok (.goto 4, 3) := by decide +kernel
theorem dX7_times_107 : decode cX7_times 107 = .ok (.iconst 0, 1) := by decide +kernel
theorem dX7_times_108 : decode cX7_times 108 = .ok (.bastore, 1) := by decide +kernel
theorem dX7_times_109 : decode cX7_times 109 = .ok (.iinc 5 1, 3) := by decide +kernel
theorem dX7_times_112 : decode cX7_times 112 = .ok (.goto (-54), 3) := by decide +kernel
theorem dX7_times_115 : decode cX7_times 115 = .ok (.goto 9, 3) := by decide +kernel
theorem dX7_times_118 : decode cX7_times 118 = .ok (.aload_n 0, 1) := by decide +kernel
theorem dX7_times_119 : decode cX7_times 119 = .ok (.iload_n 2, 1) := by decide +kernel
theorem dX7_times_120 : decode cX7_times 120 = .ok (.invokevirtual 217, 3) := by decide +kernel
theorem dX7_times_123 : decode cX7_times 123 = .ok (.pop, 1) := by decide +kernel
theorem dX7_times_124 : decode cX7_times 124 = .ok (.aload_n 0, 1) := by decide +kernel
theorem dX7_times_125 : decode cX7_times 125 = .ok (.aload_n 0, 1) := by decide +kernel
theorem dX7_times_126 : decode cX7_times 126 = .ok (.getfield 105, 3) := by decide +kernel
theorem dX7_times_129 : decode cX7_times 129 = .ok (.iload 4, 2) := by decide +kernel
theorem dX7_times_131 : decode cX7_times 131 = .ok (.invokevirtual 226, 3) := by decide +kernel
theorem dX7_times_134 : decode cX7_times 134 = .ok (.ireturn, 1) := by decide +kernel
theorem dX7_equations_0 : decode cX7_equations 0 = .ok (.aload_n 0, 1) := by decide +kernel
theorem dX7_equations_1 : decode cX7_equations 1 = .ok (.getfield 86, 3) := by decide +kernel
theorem dX7_equations_4 : decode cX7_equations 4 = .ok (.bipush 14, 2) := by decide +kernel
theorem dX7_equations_6 : decode cX7_equations 6 = .ok (.iaload, 1) := by decide +kernel
theorem dX7_equations_7 : decode cX7_equations 7 = .ok (.ireturn, 1) := by decide +kernel
theorem dX7_equate_0 : decode cX7_equate 0 = .ok (.aload_n 0, 1) := by decide +kernel
theorem dX7_equate_1 : decode cX7_equate 1 = .ok (.iconst 0, 1) := by decide +kernel
theorem dX7_equate_2 : decode cX7_equate 2 = .ok (.putfield 1, 3) := by decide +kernel
theorem dX7_equate_5 : decode cX7_equate 5 = .ok (.aload_n 0, 1) := by decide +kernel
theorem dX7_equate_6 : decode cX7_equate 6 = .ok (.invokevirtual 195, 3) := by decide +kernel
theorem dX7_equate_9 : decode cX7_equate 9 = .ok (.ifCond .eq 47, 3) := by decide +kernel
theorem dX7_equate_12 : decode cX7_equate 12 = .ok (.iload_n 1, 1) := by decide +kernel
theorem dX7_equate_13 : decode cX7_equate 13 = .ok (.iconst 0, 1) := by decide +kernel
theorem dX7_equate_14 : decode cX7_equate 14 = .ok (.aload_n 0, 1) := by decide +kernel
theorem dX7_equate_15 : decode cX7_equate 15 = .ok (.invokevirtual 250, 3) := by decide +kernel
theorem dX7_equate_18 : decode cX7_equate 18 = .ok (.invokestatic 117, 3) := by decide +kernel
theorem dX7_equate_21 : decode cX7_equate 21 = .ok (.ifCond .eq 35, 3) := by decide +kernel
theorem dX7_equate_24 : decode cX7_equate 24 = .ok (.iload_n 1, 1) := by decide +kernel
theorem dX7_equate_25 : decode cX7_equate 25 = .ok (.iconst 3, 1) := by decide +kernel
theorem dX7_equate_26 : decode cX7_equate 26 = .ok (.if_icmp .eq 30, 3) := by decide +kernel
theorem dX7_equate_29 : decode cX7_equate 29 = .ok (.aload_n 0, 1) := by decide +kernel
theorem dX7_equate_30 : decode cX7_equate 30 = .ok (.iload_n 2, 1) := by decide +kernel
theorem dX7_equate_31 : decode cX7_equate 31 = .ok (.iload_n 3, 1) := by decide +kernel
theorem dX7_equate_32 : decode cX7_equate 32 = .ok (.iload 4, 2) := by decide +kernel
theorem dX7_equate_34 : decode cX7_equate 34 = .ok (.invokevirtual 211, 3) := by decide +kernel
theorem dX7_equate_37 : decode cX7_equate 37 = .ok (.iconst (-1), 1) := by decide +kernel
theorem dX7_equate_38 : decode cX7_equate 38 = .ok (.if_icmp .eq 18, 3) := by decide +kernel
theorem dX7_equate_41 : decode cX7_equate 41 = .ok (.iload 5, 2) := by decide +kernel
theorem dX7_equate_43 : decode cX7_equate 43 = .ok (.iconst 0, 1) := by decide +kernel
theorem dX7_equate_44 : decode cX7_equate 44 = .ok (.aload_n 0, 1) := by decide +kernel
theorem dX7_equate_45 : decode cX7_equate 45 = .ok (.invokevirtual 195, 3) := by decide +kernel
theorem dX7_equate_48 : decode cX7_equate 48 = .ok (.iconst 1, 1) := by decide +kernel
theorem dX7_equate_49 : decode cX7_equate 49 = .ok (.isub, 1) := by decide +kernel
theorem dX7_equate_50 : decode cX7_equate 50 = .ok (.invokestatic 117, 3) := by decide +kernel
theorem dX7_equate_53 : decode cX7_equate 53 = .ok (.ifCond .ne 5, 3) := by decide +kernel
theorem dX7_equate_56 : decode cX7_equate 56 = .ok (.iconst (-1), 1) := by decide +kernel
theorem dX7_equate_57 : decode cX7_equate 57 = .ok (.ireturn, 1) := by decide +kernel
theorem dX7_equate_58 : decode cX7_equate 58 = .ok (.aload_n 0, 1) := by decide +kernel
theorem dX7_equate_59 : decode cX7_equate 59 = .ok (.invokevirtual 223, 3) := by decide +kernel
theorem dX7_equate_62 : decode cX7_equate 62 = .ok (.aload_n 0, 1) := by decide +kernel
theorem dX7_equate_63 : decode cX7_equate 63 = .ok (.getfield 86, 3) := by decide +kernel
theorem dX7_equate_66 : decode cX7_equate 66 = .ok (.bipush 15, 2) := by decide +kernel
theorem dX7_equate_68 : decode cX7_equate 68 = .ok (.iload_n 1, 1) := by decide +kernel
theorem dX7_equate_69 : decode cX7_equate 69 = .ok (.iadd, 1) := by decide +kernel
theorem dX7_equate_70 : decode cX7_equate 70 = .ok (.aload_n 0, 1) := by decide +kernel
theorem dX7_equate_71 : decode cX7_equate 71 = .ok (.iload_n 2, 1) := by decide +kernel
theorem dX7_equate_72 : decode cX7_equate 72 = .ok (.iload_n 3, 1) := by decide +kernel
theorem dX7_equate_73 : decode cX7_equate 73 = .ok (.iload 4, 2) := by decide +kernel
theorem dX7_equate_75 : decode cX7_equate 75 = .ok (.invokevirtual 211, 3) := by decide +kernel
theorem dX7_equate_78 : decode cX7_equate 78 = .ok (.iastore, 1) := by decide +kernel
theorem dX7_equate_79 : decode cX7_equate 79 = .ok (.aload_n 0, 1) := by decide +kernel
theorem dX7_equate_80 : decode cX7_equate 80 = .ok (.getfield 86, 3) := by decide +kernel
theorem dX7_equate_83 : decode cX7_equate 83 = .ok (.bipush 18, 2) := by decide +kernel
theorem dX7_equate_85 : decode cX7_equate 85 = .ok (.iload_n 1, 1) := by decide +kernel
theorem dX7_equate_86 : decode cX7_equate 86 = .ok (.iadd, 1) := by decide +kernel
theorem dX7_equate_87 : decode cX7_equate 87 = .ok (.iload 5, 2) := by decide +kernel
theorem dX7_equate_89 : decode cX7_equate 89 = .ok (.iastore, 1) := by decide +kernel
theorem dX7_equate_90 : decode cX7_equate 90 = .ok (.iload_n 1, 1) := by decide +kernel
theorem dX7_equate_91 : decode cX7_equate 91 = .ok (.aload_n 0, 1) := by decide +kernel
theorem dX7_equate_92 : decode cX7_equate 92 = .ok (.invokevirtual 250, 3) := by decide +kernel
theorem dX7_equate_95 : decode cX7_equate 95 = .ok (.if_icmp .ne 14, 3) := by decide +kernel
theorem dX7_equate_98 : decode cX7_equate 98 = .ok (.aload_n 0, 1) := by decide +kernel
theorem dX7_equate_99 : decode cX7_equate 99 = .ok (.getfield 86, 3) := by decide +kernel
theorem dX7_equate_102 : decode cX7_equate 102 = .ok (.bipush 14, 2) := by decide +kernel
theorem dX7_equate_104 : decode cX7_equate 104 = .ok (.dup2, 1) := by decide +kernel
theorem dX7_equate_105 : decode cX7_equate 105 = .ok (.iaload, 1) := by decide +kernel
theorem dX7_equate_106 : decode cX7_equate 106 = .ok (.iconst 1, 1) := by decide +kernel
theorem dX7_equate_107 : decode cX7_equate 107 = .ok (.iadd, 1) := by decide +kernel
theorem dX7_equate_108 : decode cX7_equate 108 = .ok (.iastore, 1) := by decide +kernel
theorem dX7_equate_109 : decode cX7_equate 109 = .ok (.aload_n 0, 1) := by decide +kernel
theorem dX7_equate_110 : decode cX7_equate 110 = .ok (.invokevirtual 250, 3) := by decide +kernel
theorem dX7_equate_113 : decode cX7_equate 113 = .ok (.ireturn, 1) := by decide +kernel
theorem dX7_drop_0 : decode cX7_drop 0 = .ok (.aload_n 0, 1) := by decide +kernel
theorem dX7_drop_1 : decode cX7_drop 1 = .ok (.iconst 0, 1) := by decide +kernel
theorem dX7_drop_2 : decode cX7_drop 2 = .ok (.putfield 1, 3) := by decide +kernel
theorem dX7_drop_5 : decode cX7_drop 5 = .ok (.iload_n 1, 1) := by decide +kernel
theorem dX7_drop_6 : decode cX7_drop 6 = .ok (.iconst 0, 1) := by decide +kernel
theorem dX7_drop_7 : decode cX7_drop 7 = .ok (.aload_n 0, 1) := by decide +kernel
theorem dX7_drop_8 : decode cX7_drop 8 = .ok (.invokevirtual 250, 3) := by decide +kernel
theorem dX7_drop_11 : decode cX7_drop 11 = .ok (.iconst 1, 1) := by decide +kernel
theorem dX7_drop_12 : decode cX7_drop 12 = .ok (.isub, 1) := by decide +kernel
theorem dX7_drop_13 : decode cX7_drop 13 = .ok (.invokestatic 117, 3) := by decide +kernel
theorem dX7_drop_16 : decode cX7_drop 16 = .ok (.ifCond .ne 5, 3) := by decide +kernel
theorem dX7_drop_19 : decode cX7_drop 19 = .ok (.iconst (-1), 1) := by decide +kernel
theorem dX7_drop_20 : decode cX7_drop 20 = .ok (.ireturn, 1) := by decide +kernel
theorem dX7_drop_21 : decode cX7_drop 21 = .ok (.aload_n 0, 1) := by decide +kernel
theorem dX7_drop_22 : decode cX7_drop 22 = .ok (.invokevirtual 223, 3) := by decide +kernel
theorem dX7_drop_25 : decode cX7_drop 25 = .ok (.iload_n 1, 1) := by decide +kernel
theorem dX7_drop_26 : decode cX7_drop 26 = .ok (.istore_n 2, 1) := by decide +kernel
theorem dX7_drop_27 : decode cX7_drop 27 = .ok (.iload_n 2, 1) := by decide +kernel
theorem dX7_drop_28 : decode cX7_drop 28 = .ok (.iconst 3, 1) := by decide +kernel
theorem dX7_drop_29 : decode cX7_drop 29 = .ok (.if_icmp .ge 71, 3) := by decide +kernel
theorem dX7_drop_32 : decode cX7_drop 32 = .ok (.aload_n 0, 1) := by decide +kernel
theorem dX7_drop_33 : decode cX7_drop 33 = .ok (.getfield 86, 3) := by decide +kernel
theorem dX7_drop_36 : decode cX7_drop 36 = .ok (.bipush 15, 2) := by decide +kernel
theorem dX7_drop_38 : decode cX7_drop 38 = .ok (.iload_n 2, 1) := by decide +kernel
theorem dX7_drop_39 : decode cX7_drop 39 = .ok (.iadd, 1) := by decide +kernel
theorem dX7_drop_40 : decode cX7_drop 40 = .ok (.iload_n 2, 1) := by decide +kernel
theorem dX7_drop_41 : decode cX7_drop 41 = .ok (.iconst 1, 1) := by decide +kernel
theorem dX7_drop_42 : decode cX7_drop 42 = .ok (.iadd, 1) := by decide +kernel
theorem dX7_drop_43 : decode cX7_drop 43 = .ok (.iconst 3, 1) := by decide +kernel
theorem dX7_drop_44 : decode cX7_drop 44 = .ok (.if_icmp .ge 17, 3) := by decide +kernel
theorem dX7_drop_47 : decode cX7_drop 47 = .ok (.aload_n 0, 1) := by decide +kernel
theorem dX7_drop_48 : decode cX7_drop 48 = .ok (.getfield 86, 3) := by decide +kernel
theorem dX7_drop_51 : decode cX7_drop 51 = .ok (.bipush 15, 2) := by decide +kernel
theorem dX7_drop_53 : decode cX7_drop 53 = .ok (.iload_n 2, 1) := by decide +kernel
theorem dX7_drop_54 : decode cX7_drop 54 = .ok (.iadd, 1) := by decide +kernel
theorem dX7_drop_55 : decode cX7_drop 55 = .ok (.iconst 1, 1) := by decide +kernel
theorem dX7_drop_56 : decode cX7_drop 56 = .ok (.iadd, 1) := by decide +kernel
theorem dX7_drop_57 : decode cX7_drop 57 = .ok (.iaload, 1) := by decide +kernel
theorem dX7_drop_58 : decode cX7_drop 58 = .ok (.goto 4, 3) := by decide +kernel
theorem dX7_drop_61 : decode cX7_drop 61 = .ok (.iconst 0, 1) := by decide +kernel
theorem dX7_drop_62 : decode cX7_drop 62 = .ok (.iastore, 1) := by decide +kernel
theorem dX7_drop_63 : decode cX7_drop 63 = .ok (.aload_n 0, 1) := by decide +kernel
theorem dX7_drop_64 : decode cX7_drop 64 = .ok (.getfield 86, 3) := by decide +kernel
theorem dX7_drop_67 : decode cX7_drop 67 = .ok (.bipush 18, 2) := by decide +kernel
theorem dX7_drop_69 : decode cX7_drop 69 = .ok (.iload_n 2, 1) := by decide +kernel
theorem dX7_drop_70 : decode cX7_drop 70 = .ok (.iadd, 1) := by decide +kernel
theorem dX7_drop_71 : decode cX7_drop 71 = .ok (.iload_n 2, 1) := by decide +kernel
theorem dX7_drop_72 : decode cX7_drop 72 = .ok (.iconst 1, 1) := by decide +kernel
theorem dX7_drop_73 : decode cX7_drop 73 = .ok (.iadd, 1) := by decide +kernel
theorem dX7_drop_74 : decode cX7_drop 74 = .ok (.iconst 3, 1) := by decide +kernel
theorem dX7_drop_75 : decode cX7_drop 75 = .ok (.if_icmp .ge 17, 3) := by decide +kernel
theorem dX7_drop_78 : decode cX7_drop 78 = .ok (.aload_n 0, 1) := by decide +kernel
theorem dX7_drop_79 : decode cX7_drop 79 = .ok (.getfield 86, 3) := by decide +kernel
theorem dX7_drop_82 : decode cX7_drop 82 = .ok (.bipush 18, 2) := by decide +kernel
theorem dX7_drop_84 : decode cX7_drop 84 = .ok (.iload_n 2, 1) := by decide +kernel
theorem dX7_drop_85 : decode cX7_drop 85 = .ok (.iadd, 1) := by decide +kernel
theorem dX7_drop_86 : decode cX7_drop 86 = .ok (.iconst 1, 1) := by decide +kernel
theorem dX7_drop_87 : decode cX7_drop 87 = .ok (.iadd, 1) := by decide +kernel
theorem dX7_drop_88 : decode cX7_drop 88 = .ok (.iaload, 1) := by decide +kernel
theorem dX7_drop_89 : decode cX7_drop 89 = .ok (.goto 4, 3) := by decide +kernel
theorem dX7_drop_92 : decode cX7_drop 92 = .ok (.iconst 0, 1) := by decide +kernel
theorem dX7_drop_93 : decode cX7_drop 93 = .ok (.iastore, 1) := by decide +kernel
theorem dX7_drop_94 : decode cX7_drop 94 = .ok (.iinc 2 1, 3) := by decide +kernel
theorem dX7_drop_97 : decode cX7_drop 97 = .ok (.goto (-70), 3) := by decide +kernel
theorem dX7_drop_100 : decode cX7_drop 100 = .ok (.aload_n 0, 1) := by decide +kernel
theorem dX7_drop_101 : decode cX7_drop 101 = .ok (.getfield 86, 3) := by decide +kernel
theorem dX7_drop_104 : decode cX7_drop 104 = .ok (.bipush 14, 2) := by decide +kernel
theorem dX7_drop_106 : decode cX7_drop 106 = .ok (.dup2, 1) := by decide +kernel
theorem dX7_drop_107 : decode cX7_drop 107 = .ok (.iaload, 1) := by decide +kernel
theorem dX7_drop_108 : decode cX7_drop 108 = .ok (.iconst 1, 1) := by decide +kernel
theorem dX7_drop_109 : decode cX7_drop 109 = .ok (.isub, 1) := by decide +kernel
theorem dX7_drop_110 : decode cX7_drop 110 = .ok (.iastore, 1) := by decide +kernel
theorem dX7_drop_111 : decode cX7_drop 111 = .ok (.aload_n 0, 1) := by decide +kernel
theorem dX7_drop_112 : decode cX7_drop 112 = .ok (.invokevirtual 250, 3) := by decide +kernel
theorem dX7_drop_115 : decode cX7_drop 115 = .ok (.ireturn, 1) := by decide +kernel
theorem dX7_equation_0 : decode cX7_equation 0 = .ok (.aload_n 0, 1) := by decide +kernel
theorem dX7_equation_1 : decode cX7_equation 1 = .ok (.iconst 0, 1) := by decide +kernel
theorem dX7_equation_2 : decode cX7_equation 2 = .ok (.putfield 1, 3) := by decide +kernel
theorem dX7_equation_5 : decode cX7_equation 5 = .ok (.iload_n 1, 1) := by decide +kernel
theorem dX7_equation_6 : decode cX7_equation 6 = .ok (.iconst 0, 1) := by decide +kernel
theorem dX7_equation_7 : decode cX7_equation 7 = .ok (.aload_n 0, 1) := by decide +kernel
theorem dX7_equation_8 : decode cX7_equation 8 = .ok (.invokevirtual 250, 3) := by decide +kernel
theorem dX7_equation_11 : decode cX7_equation 11 = .ok (.iconst 1, 1) := by decide +kernel
theorem dX7_equation_12 : decode cX7_equation 12 = .ok (.isub, 1) := by decide +kernel
theorem dX7_equation_13 : decode cX7_equation 13 = .ok (.invokestatic 117, 3) := by decide +kernel
theorem dX7_equation_16 : decode cX7_equation 16 = .ok (.ifCond .ne 5, 3) := by decide +kernel
theorem dX7_equation_19 : decode cX7_equation 19 = .ok (.iconst (-1), 1) := by decide +kernel
theorem dX7_equation_20 : decode cX7_equation 20 = .ok (.ireturn, 1) := by decide +kernel
theorem dX7_equation_21 : decode cX7_equation 21 = .ok (.aload_n 0, 1) := by decide +kernel
theorem dX7_equation_22 : decode cX7_equation 22 = .ok (.invokevirtual 195, 3) := by decide +kernel
theorem dX7_equation_25 : decode cX7_equation 25 = .ok (.istore_n 3, 1) := by decide +kernel
theorem dX7_equation_26 : decode cX7_equation 26 = .ok (.iload_n 2, 1) := by decide +kernel
theorem dX7_equation_27 : decode cX7_equation 27 = .ok (.tableswitch 79 0 3 #[29, 43, 57, 69], 29) := by decide +kernel
theorem dX7_equation_56 : decode cX7_equation 56 = .ok (.aload_n 0, 1) := by decide +kernel
theorem dX7_equation_57 : decode cX7_equation 57 = .ok (.getfield 86, 3) := by decide +kernel
theorem dX7_equation_60 : decode cX7_equation 60 = .ok (.bipush 15, 2) := by decide +kernel
theorem dX7_equation_62 : decode cX7_equation 62 = .ok (.iload_n 1, 1) := by decide +kernel
theorem dX7_equation_63 : decode cX7_equation 63 = .ok (.iadd, 1) := by decide +kernel
theorem dX7_equation_64 : decode cX7_equation 64 = .ok (.iaload, 1) := by decide +kernel
theorem dX7_equation_65 : decode cX7_equation 65 = .ok (.iload_n 3, 1) := by decide +kernel
theorem dX7_equation_66 : decode cX7_equation 66 = .ok (.iload_n 3, 1) := by decide +kernel
theorem dX7_equation_67 : decode cX7_equation 67 = .ok (.imul, 1) := by decide +kernel
theorem dX7_equation_68 : decode cX7_equation 68 = .ok (.idiv, 1) := by decide +kernel
theorem dX7_equation_69 : decode cX7_equation 69 = .ok (.ireturn, 1) := by decide +kernel
theorem dX7_equation_70 : decode cX7_equation 70 = .ok (.aload_n 0, 1) := by decide +kernel
theorem dX7_equation_71 : decode cX7_equation 71 = .ok (.getfield 86, 3) := by decide +kernel
theorem dX7_equation_74 : decode cX7_equation 74 = .ok (.bipush 15, 2) := by decide +kernel
theorem dX7_equation_76 : decode cX7_equation 76 = .ok (.iload_n 1, 1) := by decide +kernel
theorem dX7_equation_77 : decode cX7_equation 77 = .ok (.iadd, 1) := by decide +kernel
theorem dX7_equation_78 : decode cX7_equation 78 = .ok (.iaload, 1) := by decide +kernel
theorem dX7_equation_79 : decode cX7_equation 79 = .ok (.iload_n 3, 1) := by decide +kernel
theorem dX7_equation_80 : decode cX7_equation 80 = .ok (.idiv, 1) := by decide +kernel
theorem dX7_equation_81 : decode cX7_equation 81 = .ok (.iload_n 3, 1) := by decide +kernel
theorem dX7_equation_82 : decode cX7_equation 82 = .ok (.irem, 1) := by decide +kernel
theorem dX7_equation_83 : decode cX7_equation 83 = .ok (.ireturn, 1) := by decide +kernel
theorem dX7_equation_84 : decode cX7_equation 84 = .ok (.aload_n 0, 1) := by decide +kernel
theorem dX7_equation_85 : decode cX7_equation 85 = .ok (.getfield 86, 3) := by decide +kernel
theorem dX7_equation_88 : decode cX7_equation 88 = .ok (.bipush 15, 2) := by decide +kernel
theorem dX7_equation_90 : decode cX7_equation 90 = .ok (.iload_n 1, 1) := by decide +kernel
theorem dX7_equation_91 : decode cX7_equation 91 = .ok (.iadd, 1) := by decide +kernel
theorem dX7_equation_92 : decode cX7_equation 92 = .ok (.iaload, 1) := by decide +kernel
theorem dX7_equation_93 : decode cX7_equation 93 = .ok (.iload_n 3, 1) := by decide +kernel
theorem dX7_equation_94 : decode cX7_equation 94 = .ok (.irem, 1) := by decide +kernel
theorem dX7_equation_95 : decode cX7_equation 95 = .ok (.ireturn, 1) := by decide +kernel
theorem dX7_equation_96 : decode cX7_equation 96 = .ok (.aload_n 0, 1) := by decide +kernel
theorem dX7_equation_97 : decode cX7_equation 97 = .ok (.getfield 86, 3) := by decide +kernel
theorem dX7_equation_100 : decode cX7_equation 100 = .ok (.bipush 18, 2) := by decide +kernel
theorem dX7_equation_102 : decode cX7_equation 102 = .ok (.iload_n 1, 1) := by decide +kernel
theorem dX7_equation_103 : decode cX7_equation 103 = .ok (.iadd, 1) := by decide +kernel
theorem dX7_equation_104 : decode cX7_equation 104 = .ok (.iaload, 1) := by decide +kernel
theorem dX7_equation_105 : decode cX7_equation 105 = .ok (.ireturn, 1) := by decide +kernel
theorem dX7_equation_106 : decode cX7_equation 106 = .ok (.iconst (-1), 1) := by decide +kernel
theorem dX7_equation_107 : decode cX7_equation 107 = .ok (.ireturn, 1) := by decide +kernel
theorem dX7_solves_0 : decode cX7_solves 0 = .ok (.iconst 0, 1) := by decide +kernel
theorem dX7_solves_1 : decode cX7_solves 1 = .ok (.istore_n 2, 1) := by decide +kernel
theorem dX7_solves_2 : decode cX7_solves 2 = .ok (.iload_n 2, 1) := by decide +kernel
theorem dX7_solves_3 : decode cX7_solves 3 = .ok (.aload_n 0, 1) := by decide +kernel
theorem dX7_solves_4 : decode cX7_solves 4 = .ok (.invokevirtual 250, 3) := by decide +kernel
theorem dX7_solves_7 : decode cX7_solves 7 = .ok (.if_icmp .ge 40, 3) := by decide +kernel
theorem dX7_solves_10 : decode cX7_solves 10 = .ok (.aload_n 0, 1) := by decide +kernel
theorem dX7_solves_11 : decode cX7_solves 11 = .ok (.getfield 86, 3) := by decide +kernel
theorem dX7_solves_14 : decode cX7_solves 14 = .ok (.bipush 15, 2) := by decide +kernel
theorem dX7_solves_16 : decode cX7_solves 16 = .ok (.iload_n 2, 1) := by decide +kernel
theorem dX7_solves_17 : decode cX7_solves 17 = .ok (.iadd, 1) := by decide +kernel
theorem dX7_solves_18 : decode cX7_solves 18 = .ok (.iaload, 1) := by decide +kernel
theorem dX7_solves_19 : decode cX7_solves 19 = .ok (.iload_n 1, 1) := by decide +kernel
theorem dX7_solves_20 : decode cX7_solves 20 = .ok (.aload_n 0, 1) := by decide +kernel
theorem dX7_solves_21 : decode cX7_solves 21 = .ok (.invokevirtual 195, 3) := by decide +kernel
theorem dX7_solves_24 : decode cX7_solves 24 = .ok (.invokestatic 239, 3) := by decide +kernel
theorem dX7_solves_27 : decode cX7_solves 27 = .ok (.aload_n 0, 1) := by decide +kernel
theorem dX7_solves_28 : decode cX7_solves 28 = .ok (.getfield 86, 3) := by decide +kernel
theorem dX7_solves_31 : decode cX7_solves 31 = .ok (.bipush 18, 2) := by decide +kernel
theorem dX7_solves_33 : decode cX7_solves 33 = .ok (.iload_n 2, 1) := by decide +kernel
theorem dX7_solves_34 : decode cX7_solves 34 = .ok (.iadd, 1) := by decide +kernel
theorem dX7_solves_35 : decode cX7_solves 35 = .ok (.iaload, 1) := by decide +kernel
theorem dX7_solves_36 : decode cX7_solves 36 = .ok (.if_icmp .eq 5, 3) := by decide +kernel
theorem dX7_solves_39 : decode cX7_solves 39 = .ok (.iconst 0, 1) := by decide +kernel
theorem dX7_solves_40 : decode cX7_solves 40 = .ok (.ireturn, 1) := by decide +kernel
theorem dX7_solves_41 : decode cX7_solves 41 = .ok (.iinc 2 1, 3) := by decide +kernel
theorem dX7_solves_44 : decode cX7_solves 44 = .ok (.goto (-42), 3) := by decide +kernel
theorem dX7_solves_47 : decode cX7_solves 47 = .ok (.iconst 1, 1) := by decide +kernel
theorem dX7_solves_48 : decode cX7_solves 48 = .ok (.ireturn, 1) := by decide +kernel
theorem dX7_solutions_0 : decode cX7_solutions 0 = .ok (.aload_n 0, 1) := by decide +kernel
theorem dX7_solutions_1 : decode cX7_solutions 1 = .ok (.iconst 0, 1) := by decide +kernel
theorem dX7_solutions_2 : decode cX7_solutions 2 = .ok (.putfield 1, 3) := by decide +kernel
theorem dX7_solutions_5 : decode cX7_solutions 5 = .ok (.aload_n 0, 1) := by decide +kernel
theorem dX7_solutions_6 : decode cX7_solutions 6 = .ok (.invokevirtual 195, 3) := by decide +kernel
theorem dX7_solutions_9 : decode cX7_solutions 9 = .ok (.ifCond .ne 5, 3) := by decide +kernel
theorem dX7_solutions_12 : decode cX7_solutions 12 = .ok (.iconst (-1), 1) := by decide +kernel
theorem dX7_solutions_13 : decode cX7_solutions 13 = .ok (.ireturn, 1) := by decide +kernel
theorem dX7_solutions_14 : decode cX7_solutions 14 = .ok (.iconst 0, 1) := by decide +kernel
theorem dX7_solutions_15 : decode cX7_solutions 15 = .ok (.istore_n 1, 1) := by decide +kernel
theorem dX7_solutions_16 : decode cX7_solutions 16 = .ok (.iconst 0, 1) := by decide +kernel
theorem dX7_solutions_17 : decode cX7_solutions 17 = .ok (.istore_n 2, 1) := by decide +kernel
theorem dX7_solutions_18 : decode cX7_solutions 18 = .ok (.iload_n 2, 1) := by decide +kernel
theorem dX7_solutions_19 : decode cX7_solutions 19 = .ok (.aload_n 0, 1) := by decide +kernel
theorem dX7_solutions_20 : decode cX7_solutions 20 = .ok (.getfield 86, 3) := by decide +kernel
theorem dX7_solutions_23 : decode cX7_solutions 23 = .ok (.invokestatic 233, 3) := by decide +kernel
theorem dX7_solutions_26 : decode cX7_solutions 26 = .ok (.if_icmp .ge 28, 3) := by decide +kernel
theorem dX7_solutions_29 : decode cX7_solutions 29 = .ok (.aload_n 0, 1) := by decide +kernel
theorem dX7_solutions_30 : decode cX7_solutions 30 = .ok (.iload_n 2, 1) := by decide +kernel
theorem dX7_solutions_31 : decode cX7_solutions 31 = .ok (.invokevirtual 236, 3) := by decide +kernel
theorem dX7_solutions_34 : decode cX7_solutions 34 = .ok (.ifCond .eq 14, 3) := by decide +kernel
theorem dX7_solutions_37 : decode cX7_solutions 37 = .ok (.aload_n 0, 1) := by decide +kernel
theorem dX7_solutions_38 : decode cX7_solutions 38 = .ok (.iload_n 2, 1) := by decide +kernel
theorem dX7_solutions_39 : decode cX7_solutions 39 = .ok (.invokevirtual 253, 3) := by decide +kernel
theorem dX7_solutions_42 : decode cX7_solutions 42 = .ok (.ifCond .eq 6, 3) := by decide +kernel
theorem dX7_solutions_45 : decode cX7_solutions 45 = .ok (.iinc 1 1, 3) := by decide +kernel
theorem dX7_solutions_48 : decode cX7_solutions 48 = .ok (.iinc 2 1, 3) := by decide +kernel
theorem dX7_solutions_51 : decode cX7_solutions 51 = .ok (.goto (-33), 3) := by decide +kernel
theorem dX7_solutions_54 : decode cX7_solutions 54 = .ok (.iload_n 1, 1) := by decide +kernel
theorem dX7_solutions_55 : decode cX7_solutions 55 = .ok (.ireturn, 1) := by decide +kernel
theorem dX7_firstSolution_0 : decode cX7_firstSolution 0 = .ok (.iconst 0, 1) := by decide +kernel
theorem dX7_firstSolution_1 : decode cX7_firstSolution 1 = .ok (.istore_n 1, 1) := by decide +kernel
theorem dX7_firstSolution_2 : decode cX7_firstSolution 2 = .ok (.iload_n 1, 1) := by decide +kernel
theorem dX7_firstSolution_3 : decode cX7_firstSolution 3 = .ok (.aload_n 0, 1) := by decide +kernel
theorem dX7_firstSolution_4 : decode cX7_firstSolution 4 = .ok (.getfield 86, 3) := by decide +kernel
theorem dX7_firstSolution_7 : decode cX7_firstSolution 7 = .ok (.invokestatic 233, 3) := by decide +kernel
theorem dX7_firstSolution_10 : decode cX7_firstSolution 10 = .ok (.if_icmp .ge 27, 3) := by decide +kernel
theorem dX7_firstSolution_13 : decode cX7_firstSolution 13 = .ok (.aload_n 0, 1) := by decide +kernel
theorem dX7_firstSolution_14 : decode cX7_firstSolution 14 = .ok (.iload_n 1, 1) := by decide +kernel
theorem dX7_firstSolution_15 : decode cX7_firstSolution 15 = .ok (.invokevirtual 236, 3) := by decide +kernel
theorem dX7_firstSolution_18 : decode cX7_firstSolution 18 = .ok (.ifCond .eq 13, 3) := by decide +kernel
theorem dX7_firstSolution_21 : decode cX7_firstSolution 21 = .ok (.aload_n 0, 1) := by decide +kernel
theorem dX7_firstSolution_22 : decode cX7_firstSolution 22 = .ok (.iload_n 1, 1) := by decide +kernel
theorem dX7_firstSolution_23 : decode cX7_firstSolution 23 = .ok (.invokevirtual 253, 3) := by decide +kernel
theorem dX7_firstSolution_26 : decode cX7_firstSolution 26 = .ok (.ifCond .eq 5, 3) := by decide +kernel
theorem dX7_firstSolution_29 : decode cX7_firstSolution 29 = .ok (.iload_n 1, 1) := by decide +kernel
theorem dX7_firstSolution_30 : decode cX7_firstSolution 30 = .ok (.ireturn, 1) := by decide +kernel
theorem dX7_firstSolution_31 : decode cX7_firstSolution 31 = .ok (.iinc 1 1, 3) := by decide +kernel
theorem dX7_firstSolution_34 : decode cX7_firstSolution 34 = .ok (.goto (-32), 3) := by decide +kernel
theorem dX7_firstSolution_37 : decode cX7_firstSolution 37 = .ok (.iconst (-1), 1) := by decide +kernel
theorem dX7_firstSolution_38 : decode cX7_firstSolution 38 = .ok (.ireturn, 1) := by decide +kernel
theorem dX7_solution_0 : decode cX7_solution 0 = .ok (.aload_n 0, 1) := by decide +kernel
theorem dX7_solution_1 : decode cX7_solution 1 = .ok (.iconst 0, 1) := by decide +kernel
theorem dX7_solution_2 : decode cX7_solution 2 = .ok (.putfield 1, 3) := by decide +kernel
theorem dX7_solution_5 : decode cX7_solution 5 = .ok (.aload_n 0, 1) := by decide +kernel
theorem dX7_solution_6 : decode cX7_solution 6 = .ok (.invokevirtual 195, 3) := by decide +kernel
theorem dX7_solution_9 : decode cX7_solution 9 = .ok (.ifCond .ne 5, 3) := by decide +kernel
theorem dX7_solution_12 : decode cX7_solution 12 = .ok (.iconst (-1), 1) := by decide +kernel
theorem dX7_solution_13 : decode cX7_solution 13 = .ok (.ireturn, 1) := by decide +kernel
theorem dX7_solution_14 : decode cX7_solution 14 = .ok (.aload_n 0, 1) := by decide +kernel
theorem dX7_solution_15 : decode cX7_solution 15 = .ok (.invokevirtual 256, 3) := by decide +kernel
theorem dX7_solution_18 : decode cX7_solution 18 = .ok (.istore_n 1, 1) := by decide +kernel
theorem dX7_solution_19 : decode cX7_solution 19 = .ok (.iload_n 1, 1) := by decide +kernel
theorem dX7_solution_20 : decode cX7_solution 20 = .ok (.iconst (-1), 1) := by decide +kernel
theorem dX7_solution_21 : decode cX7_solution 21 = .ok (.if_icmp .ne 7, 3) := by decide +kernel
theorem dX7_solution_24 : decode cX7_solution 24 = .ok (.iconst (-1), 1) := by decide +kernel
theorem dX7_solution_25 : decode cX7_solution 25 = .ok (.goto 8, 3) := by decide +kernel
theorem dX7_solution_28 : decode cX7_solution 28 = .ok (.aload_n 0, 1) := by decide +kernel
theorem dX7_solution_29 : decode cX7_solution 29 = .ok (.iload_n 1, 1) := by decide +kernel
theorem dX7_solution_30 : decode cX7_solution 30 = .ok (.invokevirtual 202, 3) := by decide +kernel
theorem dX7_solution_33 : decode cX7_solution 33 = .ok (.ireturn, 1) := by decide +kernel
theorem dX7_shows_0 : decode cX7_shows 0 = .ok (.aload_n 0, 1) := by decide +kernel
theorem dX7_shows_1 : decode cX7_shows 1 = .ok (.invokevirtual 195, 3) := by decide +kernel
theorem dX7_shows_4 : decode cX7_shows 4 = .ok (.istore_n 2, 1) := by decide +kernel
theorem dX7_shows_5 : decode cX7_shows 5 = .ok (.iconst 0, 1) := by decide +kernel
theorem dX7_shows_6 : decode cX7_shows 6 = .ok (.istore_n 3, 1) := by decide +kernel
theorem dX7_shows_7 : decode cX7_shows 7 = .ok (.iconst 0, 1) := by decide +kernel
theorem dX7_shows_8 : decode cX7_shows 8 = .ok (.istore 4, 2) := by decide +kernel
theorem dX7_shows_10 : decode cX7_shows 10 = .ok (.iconst 0, 1) := by decide +kernel
theorem dX7_shows_11 : decode cX7_shows 11 = .ok (.istore 5, 2) := by decide +kernel
theorem dX7_shows_13 : decode cX7_shows 13 = .ok (.iload 5, 2) := by decide +kernel
theorem dX7_shows_15 : decode cX7_shows 15 = .ok (.iconst 3, 1) := by decide +kernel
theorem dX7_shows_16 : decode cX7_shows 16 = .ok (.if_icmp .ge 99, 3) := by decide +kernel
theorem dX7_shows_19 : decode cX7_shows 19 = .ok (.iload 5, 2) := by decide +kernel
theorem dX7_shows_21 : decode cX7_shows 21 = .ok (.ifCond .ne 11, 3) := by decide +kernel
theorem dX7_shows_24 : decode cX7_shows 24 = .ok (.iload_n 1, 1) := by decide +kernel
theorem dX7_shows_25 : decode cX7_shows 25 = .ok (.iload_n 2, 1) := by decide +kernel
theorem dX7_shows_26 : decode cX7_shows 26 = .ok (.iload_n 2, 1) := by decide +kernel
theorem dX7_shows_27 : decode cX7_shows 27 = .ok (.imul, 1) := by decide +kernel
theorem dX7_shows_28 : decode cX7_shows 28 = .ok (.idiv, 1) := by decide +kernel
theorem dX7_shows_29 : decode cX7_shows 29 = .ok (.goto 20, 3) := by decide +kernel
theorem dX7_shows_32 : decode cX7_shows 32 = .ok (.iload 5, 2) := by decide +kernel
theorem dX7_shows_34 : decode cX7_shows 34 = .ok (.iconst 1, 1) := by decide +kernel
theorem dX7_shows_35 : decode cX7_shows 35 = .ok (.if_icmp .ne 11, 3) := by decide +kernel
theorem dX7_shows_38 : decode cX7_shows 38 = .ok (.iload_n 1, 1) := by decide +kernel
theorem dX7_shows_39 : decode cX7_shows 39 = .ok (.iload_n 2, 1) := by decide +kernel
theorem dX7_shows_40 : decode cX7_shows 40 = .ok (.idiv, 1) := by decide +kernel
theorem dX7_shows_41 : decode cX7_shows 41 = .ok (.iload_n 2, 1) := by decide +kernel
theorem dX7_shows_42 : decode cX7_shows 42 = .ok (.irem, 1) := by decide +kernel
theorem dX7_shows_43 : decode cX7_shows 43 = .ok (.goto 6, 3) := by decide +kernel
theorem dX7_shows_46 : decode cX7_shows 46 = .ok (.iload_n 1, 1) := by decide +kernel
theorem dX7_shows_47 : decode cX7_shows 47 = .ok (.iload_n 2, 1) := by decide +kernel
theorem dX7_shows_48 : decode cX7_shows 48 = .ok (.irem, 1) := by decide +kernel
theorem dX7_shows_49 : decode cX7_shows 49 = .ok (.istore 6, 2) := by decide +kernel
theorem dX7_shows_51 : decode cX7_shows 51 = .ok (.iload 5, 2) := by decide +kernel
theorem dX7_shows_53 : decode cX7_shows 53 = .ok (.aload_n 0, 1) := by decide +kernel
theorem dX7_shows_54 : decode cX7_shows 54 = .ok (.invokevirtual 250, 3) := by decide +kernel
theorem dX7_shows_57 : decode cX7_shows 57 = .ok (.if_icmp .lt 10, 3) := by decide +kernel
theorem dX7_shows_60 : decode cX7_shows 60 = .ok (.iload 6, 2) := by decide +kernel
theorem dX7_shows_62 : decode cX7_shows 62 = .ok (.ifCond .le 5, 3) := by decide +kernel
theorem dX7_shows_65 : decode cX7_shows 65 = .ok (.iconst 0, 1) := by decide +kernel
theorem dX7_shows_66 : decode cX7_shows 66 = .ok (.ireturn, 1) := by decide +kernel
theorem dX7_shows_67 : decode cX7_shows 67 = .ok (.iload_n 3, 1) := by decide +kernel
theorem dX7_shows_68 : decode cX7_shows 68 = .ok (.aload_n 0, 1) := by decide +kernel
theorem dX7_shows_69 : decode cX7_shows 69 = .ok (.getfield 86, 3) := by decide +kernel
theorem dX7_shows_72 : decode cX7_shows 72 = .ok (.bipush 15, 2) := by decide +kernel
theorem dX7_shows_74 : decode cX7_shows 74 = .ok (.iload 5, 2) := by decide +kernel
theorem dX7_shows_76 : decode cX7_shows 76 = .ok (.iadd, 1) := by decide +kernel
theorem dX7_shows_77 : decode cX7_shows 77 = .ok (.iaload, 1) := by decide +kernel
theorem dX7_shows_78 : decode cX7_shows 78 = .ok (.iload 6, 2) := by decide +kernel
theorem dX7_shows_80 : decode cX7_shows 80 = .ok (.iload_n 2, 1) := by decide +kernel
theorem dX7_shows_81 : decode cX7_shows 81 = .ok (.invokestatic 214, 3) := by decide +kernel
theorem dX7_shows_84 : decode cX7_shows 84 = .ok (.iload_n 2, 1) := by decide +kernel
theorem dX7_shows_85 : decode cX7_shows 85 = .ok (.invokestatic 183, 3) := by decide +kernel
theorem dX7_shows_88 : decode cX7_shows 88 = .ok (.istore_n 3, 1) := by decide +kernel
theorem dX7_shows_89 : decode cX7_shows 89 = .ok (.iload 4, 2) := by decide +kernel
theorem dX7_shows_91 : decode cX7_shows 91 = .ok (.iload 6, 2) := by decide +kernel
theorem dX7_shows_93 : decode cX7_shows 93 = .ok (.aload_n 0, 1) := by decide +kernel
theorem dX7_shows_94 : decode cX7_shows 94 = .ok (.getfield 86, 3) := by decide +kernel
theorem dX7_shows_97 : decode cX7_shows 97 = .ok (.bipush 18, 2) := by decide +kernel
theorem dX7_shows_99 : decode cX7_shows 99 = .ok (.iload 5, 2) := by decide +kernel
theorem dX7_shows_101 : decode cX7_shows 101 = .ok (.iadd, 1) := by decide +kernel
theorem dX7_shows_102 : decode cX7_shows 102 = .ok (.iaload, 1) := by decide +kernel
theorem dX7_shows_103 : decode cX7_shows 103 = .ok (.imul, 1) := by decide +kernel
theorem dX7_shows_104 : decode cX7_shows 104 = .ok (.iadd, 1) := by decide +kernel
theorem dX7_shows_105 : decode cX7_shows 105 = .ok (.iload_n 2, 1) := by decide +kernel
theorem dX7_shows_106 : decode cX7_shows 106 = .ok (.irem, 1) := by decide +kernel
theorem dX7_shows_107 : decode cX7_shows 107 = .ok (.istore 4, 2) := by decide +kernel
theorem dX7_shows_109 : decode cX7_shows 109 = .ok (.iinc 5 1, 3) := by decide +kernel
theorem dX7_shows_112 : decode cX7_shows 112 = .ok (.goto (-99), 3) := by decide +kernel
theorem dX7_shows_115 : decode cX7_shows 115 = .ok (.iload_n 3, 1) := by decide +kernel
theorem dX7_shows_116 : decode cX7_shows 116 = .ok (.ifCond .ne 12, 3) := by decide +kernel
theorem dX7_shows_119 : decode cX7_shows 119 = .ok (.iload 4, 2) := by decide +kernel
theorem dX7_shows_121 : decode cX7_shows 121 = .ok (.ifCond .eq 7, 3) := by decide +kernel
theorem dX7_shows_124 : decode cX7_shows 124 = .ok (.iconst 1, 1) := by decide +kernel
theorem dX7_shows_125 : decode cX7_shows 125 = .ok (.goto 4, 3) := by decide +kernel
theorem dX7_shows_128 : decode cX7_shows 128 = .ok (.iconst 0, 1) := by decide +kernel
theorem dX7_shows_129 : decode cX7_shows 129 = .ok (.ireturn, 1) := by decide +kernel
theorem dX7_witness_0 : decode cX7_witness 0 = .ok (.aload_n 0, 1) := by decide +kernel
theorem dX7_witness_1 : decode cX7_witness 1 = .ok (.iconst 0, 1) := by decide +kernel
theorem dX7_witness_2 : decode cX7_witness 2 = .ok (.putfield 1, 3) := by decide +kernel
theorem dX7_witness_5 : decode cX7_witness 5 = .ok (.aload_n 0, 1) := by decide +kernel
theorem dX7_witness_6 : decode cX7_witness 6 = .ok (.invokevirtual 195, 3) := by decide +kernel
theorem dX7_witness_9 : decode cX7_witness 9 = .ok (.ifCond .eq 11, 3) := by decide +kernel
theorem dX7_witness_12 : decode cX7_witness 12 = .ok (.aload_n 0, 1) := by decide +kernel
theorem dX7_witness_13 : decode cX7_witness 13 = .ok (.invokevirtual 256, 3) := by decide +kernel
theorem dX7_witness_16 : decode cX7_witness 16 = .ok (.iconst (-1), 1) := by decide +kernel
theorem dX7_witness_17 : decode cX7_witness 17 = .ok (.if_icmp .eq 5, 3) := by decide +kernel
theorem dX7_witness_20 : decode cX7_witness 20 = .ok (.iconst (-1), 1) := by decide +kernel
theorem dX7_witness_21 : decode cX7_witness 21 = .ok (.ireturn, 1) := by decide +kernel
theorem dX7_witness_22 : decode cX7_witness 22 = .ok (.iconst 0, 1) := by decide +kernel
theorem dX7_witness_23 : decode cX7_witness 23 = .ok (.istore_n 1, 1) := by decide +kernel
theorem dX7_witness_24 : decode cX7_witness 24 = .ok (.aload_n 0, 1) := by decide +kernel
theorem dX7_witness_25 : decode cX7_witness 25 = .ok (.iload_n 1, 1) := by decide +kernel
theorem dX7_witness_26 : decode cX7_witness 26 = .ok (.invokevirtual 259, 3) := by decide +kernel
theorem dX7_witness_29 : decode cX7_witness 29 = .ok (.ifCond .ne 9, 3) := by decide +kernel
theorem dX7_witness_32 : decode cX7_witness 32 = .ok (.iinc 1 1, 3) := by decide +kernel
theorem dX7_witness_35 : decode cX7_witness 35 = .ok (.goto (-11), 3) := by decide +kernel
theorem dX7_witness_38 : decode cX7_witness 38 = .ok (.aload_n 0, 1) := by decide +kernel
theorem dX7_witness_39 : decode cX7_witness 39 = .ok (.iload_n 1, 1) := by decide +kernel
theorem dX7_witness_40 : decode cX7_witness 40 = .ok (.invokevirtual 202, 3) := by decide +kernel
theorem dX7_witness_43 : decode cX7_witness 43 = .ok (.ireturn, 1) := by decide +kernel
theorem dX7_kernel_0 : decode cX7_kernel 0 = .ok (.aload_n 0, 1) := by decide +kernel
theorem dX7_kernel_1 : decode cX7_kernel 1 = .ok (.iconst 0, 1) := by decide +kernel
theorem dX7_kernel_2 : decode cX7_kernel 2 = .ok (.putfield 1, 3) := by decide +kernel
theorem dX7_kernel_5 : decode cX7_kernel 5 = .ok (.aload_n 0, 1) := by decide +kernel
theorem dX7_kernel_6 : decode cX7_kernel 6 = .ok (.iload_n 1, 1) := by decide +kernel
theorem dX7_kernel_7 : decode cX7_kernel 7 = .ok (.invokevirtual 199, 3) := by decide +kernel
theorem dX7_kernel_10 : decode cX7_kernel 10 = .ok (.ifCond .eq 13, 3) := by decide +kernel
theorem dX7_kernel_13 : decode cX7_kernel 13 = .ok (.aload_n 0, 1) := by decide +kernel
theorem dX7_kernel_14 : decode cX7_kernel 14 = .ok (.bipush 15, 2) := by decide +kernel
theorem dX7_kernel_16 : decode cX7_kernel 16 = .ok (.iload_n 1, 1) := by decide +kernel
theorem dX7_kernel_17 : decode cX7_kernel 17 = .ok (.invokevirtual 246, 3) := by decide +kernel
theorem dX7_kernel_20 : decode cX7_kernel 20 = .ok (.goto 4, 3) := by decide +kernel
theorem dX7_kernel_23 : decode cX7_kernel 23 = .ok (.iconst (-1), 1) := by decide +kernel
theorem dX7_kernel_24 : decode cX7_kernel 24 = .ok (.ireturn, 1) := by decide +kernel
theorem dX7_sides_0 : decode cX7_sides 0 = .ok (.aload_n 0, 1) := by decide +kernel
theorem dX7_sides_1 : decode cX7_sides 1 = .ok (.iconst 0, 1) := by decide +kernel
theorem dX7_sides_2 : decode cX7_sides 2 = .ok (.putfield 1, 3) := by decide +kernel
theorem dX7_sides_5 : decode cX7_sides 5 = .ok (.aload_n 0, 1) := by decide +kernel
theorem dX7_sides_6 : decode cX7_sides 6 = .ok (.iload_n 1, 1) := by decide +kernel
theorem dX7_sides_7 : decode cX7_sides 7 = .ok (.invokevirtual 199, 3) := by decide +kernel
theorem dX7_sides_10 : decode cX7_sides 10 = .ok (.ifCond .ne 5, 3) := by decide +kernel
theorem dX7_sides_13 : decode cX7_sides 13 = .ok (.iconst (-1), 1) := by decide +kernel
theorem dX7_sides_14 : decode cX7_sides 14 = .ok (.ireturn, 1) := by decide +kernel
theorem dX7_sides_15 : decode cX7_sides 15 = .ok (.aload_n 0, 1) := by decide +kernel
theorem dX7_sides_16 : decode cX7_sides 16 = .ok (.invokevirtual 223, 3) := by decide +kernel
theorem dX7_sides_19 : decode cX7_sides 19 = .ok (.aload_n 0, 1) := by decide +kernel
theorem dX7_sides_20 : decode cX7_sides 20 = .ok (.getfield 86, 3) := by decide +kernel
theorem dX7_sides_23 : decode cX7_sides 23 = .ok (.bipush 14, 2) := by decide +kernel
theorem dX7_sides_25 : decode cX7_sides 25 = .ok (.iconst 0, 1) := by decide +kernel
theorem dX7_sides_26 : decode cX7_sides 26 = .ok (.iastore, 1) := by decide +kernel
theorem dX7_sides_27 : decode cX7_sides 27 = .ok (.iconst 0, 1) := by decide +kernel
theorem dX7_sides_28 : decode cX7_sides 28 = .ok (.istore_n 2, 1) := by decide +kernel
theorem dX7_sides_29 : decode cX7_sides 29 = .ok (.iload_n 2, 1) := by decide +kernel
theorem dX7_sides_30 : decode cX7_sides 30 = .ok (.iconst 3, 1) := by decide +kernel
theorem dX7_sides_31 : decode cX7_sides 31 = .ok (.if_icmp .ge 29, 3) := by decide +kernel
theorem dX7_sides_34 : decode cX7_sides 34 = .ok (.aload_n 0, 1) := by decide +kernel
theorem dX7_sides_35 : decode cX7_sides 35 = .ok (.getfield 86, 3) := by decide +kernel
theorem dX7_sides_38 : decode cX7_sides 38 = .ok (.bipush 15, 2) := by decide +kernel
theorem dX7_sides_40 : decode cX7_sides 40 = .ok (.iload_n 2, 1) := by decide +kernel
theorem dX7_sides_41 : decode cX7_sides 41 = .ok (.iadd, 1) := by decide +kernel
theorem dX7_sides_42 : decode cX7_sides 42 = .ok (.iconst 0, 1) := by decide +kernel
theorem dX7_sides_43 : decode cX7_sides 43 = .ok (.iastore, 1) := by decide +kernel
theorem dX7_sides_44 : decode cX7_sides 44 = .ok (.aload_n 0, 1) := by decide +kernel
theorem dX7_sides_45 : decode cX7_sides 45 = .ok (.getfield 86, 3) := by decide +kernel
theorem dX7_sides_48 : decode cX7_sides 48 = .ok (.bipush 18, 2) := by decide +kernel
theorem dX7_sides_50 : decode cX7_sides 50 = .ok (.iload_n 2, 1) := by decide +kernel
theorem dX7_sides_51 : decode cX7_sides 51 = .ok (.iadd, 1) := by decide +kernel
theorem dX7_sides_52 : decode cX7_sides 52 = .ok (.iconst 0, 1) := by decide +kernel
theorem dX7_sides_53 : decode cX7_sides 53 = .ok (.iastore, 1) := by decide +kernel
theorem dX7_sides_54 : decode cX7_sides 54 = .ok (.iinc 2 1, 3) := by decide +kernel
theorem dX7_sides_57 : decode cX7_sides 57 = .ok (.goto (-28), 3) := by decide +kernel
theorem dX7_sides_60 : decode cX7_sides 60 = .ok (.iconst 0, 1) := by decide +kernel
theorem dX7_sides_61 : decode cX7_sides 61 = .ok (.istore_n 2, 1) := by decide +kernel
theorem dX7_sides_62 : decode cX7_sides 62 = .ok (.iload_n 2, 1) := by decide +kernel
theorem dX7_sides_63 : decode cX7_sides 63 = .ok (.iconst 3, 1) := by decide +kernel
theorem dX7_sides_64 : decode cX7_sides 64 = .ok (.if_icmp .ge 65, 3) := by decide +kernel
theorem dX7_sides_67 : decode cX7_sides 67 = .ok (.aload_n 0, 1) := by decide +kernel
theorem dX7_sides_68 : decode cX7_sides 68 = .ok (.getfield 86, 3) := by decide +kernel
theorem dX7_sides_71 : decode cX7_sides 71 = .ok (.iconst 2, 1) := by decide +kernel
theorem dX7_sides_72 : decode cX7_sides 72 = .ok (.iconst 3, 1) := by decide +kernel
theorem dX7_sides_73 : decode cX7_sides 73 = .ok (.iload_n 1, 1) := by decide +kernel
theorem dX7_sides_74 : decode cX7_sides 74 = .ok (.imul, 1) := by decide +kernel
theorem dX7_sides_75 : decode cX7_sides 75 = .ok (.iadd, 1) := by decide +kernel
theorem dX7_sides_76 : decode cX7_sides 76 = .ok (.iload_n 2, 1) := by decide +kernel
theorem dX7_sides_77 : decode cX7_sides 77 = .ok (.iadd, 1) := by decide +kernel
theorem dX7_sides_78 : decode cX7_sides 78 = .ok (.iaload, 1) := by decide +kernel
theorem dX7_sides_79 : decode cX7_sides 79 = .ok (.ifCond .ne 6, 3) := by decide +kernel
theorem dX7_sides_82 : decode cX7_sides 82 = .ok (.goto 41, 3) := by decide +kernel
theorem dX7_sides_85 : decode cX7_sides 85 = .ok (.aload_n 0, 1) := by decide +kernel
theorem dX7_sides_86 : decode cX7_sides 86 = .ok (.getfield 86, 3) := by decide +kernel
theorem dX7_sides_89 : decode cX7_sides 89 = .ok (.bipush 15, 2) := by decide +kernel
theorem dX7_sides_91 : decode cX7_sides 91 = .ok (.aload_n 0, 1) := by decide +kernel
theorem dX7_sides_92 : decode cX7_sides 92 = .ok (.getfield 86, 3) := by decide +kernel
theorem dX7_sides_95 : decode cX7_sides 95 = .ok (.bipush 14, 2) := by decide +kernel
theorem dX7_sides_97 : decode cX7_sides 97 = .ok (.iaload, 1) := by decide +kernel
theorem dX7_sides_98 : decode cX7_sides 98 = .ok (.iadd, 1) := by decide +kernel
theorem dX7_sides_99 : decode cX7_sides 99 = .ok (.aload_n 0, 1) := by decide +kernel
theorem dX7_sides_100 : decode cX7_sides 100 = .ok (.getfield 86, 3) := by decide +kernel
theorem dX7_sides_103 : decode cX7_sides 103 = .ok (.iconst 2, 1) := by decide +kernel
theorem dX7_sides_104 : decode cX7_sides 104 = .ok (.iconst 3, 1) := by decide +kernel
theorem dX7_sides_105 : decode cX7_sides 105 = .ok (.iload_n 1, 1) := by decide +kernel
theorem dX7_sides_106 : decode cX7_sides 106 = .ok (.imul, 1) := by decide +kernel
theorem dX7_sides_107 : decode cX7_sides 107 = .ok (.iadd, 1) := by decide +kernel
theorem dX7_sides_108 : decode cX7_sides 108 = .ok (.iload_n 2, 1) := by decide +kernel
theorem dX7_sides_109 : decode cX7_sides 109 = .ok (.iadd, 1) := by decide +kernel
theorem dX7_sides_110 : decode cX7_sides 110 = .ok (.iaload, 1) := by decide +kernel
theorem dX7_sides_111 : decode cX7_sides 111 = .ok (.iastore, 1) := by decide +kernel
theorem dX7_sides_112 : decode cX7_sides 112 = .ok (.aload_n 0, 1) := by decide +kernel
theorem dX7_sides_113 : decode cX7_sides 113 = .ok (.getfield 86, 3) := by decide +kernel
theorem dX7_sides_116 : decode cX7_sides 116 = .ok (.bipush 14, 2) := by decide +kernel
theorem dX7_sides_118 : decode cX7_sides 118 = .ok (.dup2, 1) := by decide +kernel
theorem dX7_sides_119 : decode cX7_sides 119 = .ok (.iaload, 1) := by decide +kernel
theorem dX7_sides_120 : decode cX7_sides 120 = .ok (.iconst 1, 1) := by decide +kernel
theorem dX7_sides_121 : decode cX7_sides 121 = .ok (.iadd, 1) := by decide +kernel
theorem dX7_sides_122 : decode cX7_sides 122 = .ok (.iastore, 1) := by decide +kernel
theorem dX7_sides_123 : decode cX7_sides 123 = .ok (.iinc 2 1, 3) := by decide +kernel
theorem dX7_sides_126 : decode cX7_sides 126 = .ok (.goto (-64), 3) := by decide +kernel
theorem dX7_sides_129 : decode cX7_sides 129 = .ok (.aload_n 0, 1) := by decide +kernel
theorem dX7_sides_130 : decode cX7_sides 130 = .ok (.invokevirtual 250, 3) := by decide +kernel
theorem dX7_sides_133 : decode cX7_sides 133 = .ok (.ireturn, 1) := by decide +kernel
theorem dX7_draw_0 : decode cX7_draw 0 = .ok (.aload_n 0, 1) := by decide +kernel
theorem dX7_draw_1 : decode cX7_draw 1 = .ok (.aload_n 0, 1) := by decide +kernel
theorem dX7_draw_2 : decode cX7_draw 2 = .ok (.getfield 262, 3) := by decide +kernel
theorem dX7_draw_5 : decode cX7_draw 5 = .ok (.ldc_w 265, 3) := by decide +kernel
theorem dX7_draw_8 : decode cX7_draw 8 = .ok (.imul, 1) := by decide +kernel
theorem dX7_draw_9 : decode cX7_draw 9 = .ok (.sipush 12345, 3) := by decide +kernel
theorem dX7_draw_12 : decode cX7_draw 12 = .ok (.iadd, 1) := by decide +kernel
theorem dX7_draw_13 : decode cX7_draw 13 = .ok (.putfield 262, 3) := by decide +kernel
theorem dX7_draw_16 : decode cX7_draw 16 = .ok (.aload_n 0, 1) := by decide +kernel
theorem dX7_draw_17 : decode cX7_draw 17 = .ok (.getfield 262, 3) := by decide +kernel
theorem dX7_draw_20 : decode cX7_draw 20 = .ok (.bipush 8, 2) := by decide +kernel
theorem dX7_draw_22 : decode cX7_draw 22 = .ok (.iushr, 1) := by decide +kernel
theorem dX7_draw_23 : decode cX7_draw 23 = .ok (.iload_n 1, 1) := by decide +kernel
theorem dX7_draw_24 : decode cX7_draw 24 = .ok (.irem, 1) := by decide +kernel
theorem dX7_draw_25 : decode cX7_draw 25 = .ok (.ireturn, 1) := by decide +kernel
theorem dX7_drawn_0 : decode cX7_drawn 0 = .ok (.aload_n 0, 1) := by decide +kernel
theorem dX7_drawn_1 : decode cX7_drawn 1 = .ok (.iconst 0, 1) := by decide +kernel
theorem dX7_drawn_2 : decode cX7_drawn 2 = .ok (.putfield 1, 3) := by decide +kernel
theorem dX7_drawn_5 : decode cX7_drawn 5 = .ok (.iload_n 1, 1) := by decide +kernel
theorem dX7_drawn_6 : decode cX7_drawn 6 = .ok (.iconst 1, 1) := by decide +kernel
theorem dX7_drawn_7 : decode cX7_drawn 7 = .ok (.bipush 60, 2) := by decide +kernel
theorem dX7_drawn_9 : decode cX7_drawn 9 = .ok (.invokestatic 117, 3) := by decide +kernel
theorem dX7_drawn_12 : decode cX7_drawn 12 = .ok (.ifCond .ne 5, 3) := by decide +kernel
theorem dX7_drawn_15 : decode cX7_drawn 15 = .ok (.iconst (-1), 1) := by decide +kernel
theorem dX7_drawn_16 : decode cX7_drawn 16 = .ok (.ireturn, 1) := by decide +kernel
theorem dX7_drawn_17 : decode cX7_drawn 17 = .ok (.aload_n 0, 1) := by decide +kernel
theorem dX7_drawn_18 : decode cX7_drawn 18 = .ok (.invokevirtual 195, 3) := by decide +kernel
theorem dX7_drawn_21 : decode cX7_drawn 21 = .ok (.ifCond .ne 5, 3) := by decide +kernel
theorem dX7_drawn_24 : decode cX7_drawn 24 = .ok (.iconst 0, 1) := by decide +kernel
theorem dX7_drawn_25 : decode cX7_drawn 25 = .ok (.ireturn, 1) := by decide +kernel
theorem dX7_drawn_26 : decode cX7_drawn 26 = .ok (.aload_n 0, 1) := by decide +kernel
theorem dX7_drawn_27 : decode cX7_drawn 27 = .ok (.invokevirtual 223, 3) := by decide +kernel
theorem dX7_drawn_30 : decode cX7_drawn 30 = .ok (.aload_n 0, 1) := by decide +kernel
theorem dX7_drawn_31 : decode cX7_drawn 31 = .ok (.iload_n 2, 1) := by decide +kernel
theorem dX7_drawn_32 : decode cX7_drawn 32 = .ok (.putfield 262, 3) := by decide +kernel
theorem dX7_drawn_35 : decode cX7_drawn 35 = .ok (.iconst 0, 1) := by decide +kernel
theorem dX7_drawn_36 : decode cX7_drawn 36 = .ok (.istore_n 3, 1) := by decide +kernel
theorem dX7_drawn_37 : decode cX7_drawn 37 = .ok (.iload_n 3, 1) := by decide +kernel
theorem dX7_drawn_38 : decode cX7_drawn 38 = .ok (.iload_n 1, 1) := by decide +kernel
theorem dX7_drawn_39 : decode cX7_drawn 39 = .ok (.if_icmp .ge 108, 3) := by decide +kernel
theorem dX7_drawn_42 : decode cX7_drawn 42 = .ok (.aload_n 0, 1) := by decide +kernel
theorem dX7_drawn_43 : decode cX7_drawn 43 = .ok (.iconst 4, 1) := by decide +kernel
theorem dX7_drawn_44 : decode cX7_drawn 44 = .ok (.invokevirtual 266, 3) := by decide +kernel
theorem dX7_drawn_47 : decode cX7_drawn 47 = .ok (.istore 4, 2) := by decide +kernel
theorem dX7_drawn_49 : decode cX7_drawn 49 = .ok (.iconst 0, 1) := by decide +kernel
theorem dX7_drawn_50 : decode cX7_drawn 50 = .ok (.istore 5, 2) := by decide +kernel
theorem dX7_drawn_52 : decode cX7_drawn 52 = .ok (.iconst 0, 1) := by decide +kernel
theorem dX7_drawn_53 : decode cX7_drawn 53 = .ok (.istore 6, 2) := by decide +kernel
theorem dX7_drawn_55 : decode cX7_drawn 55 = .ok (.iload 6, 2) := by decide +kernel
theorem dX7_drawn_57 : decode cX7_drawn 57 = .ok (.iconst 3, 1) := by decide +kernel
theorem dX7_drawn_58 : decode cX7_drawn 58 = .ok (.if_icmp .ge 42, 3) := by decide +kernel
theorem dX7_drawn_61 : decode cX7_drawn 61 = .ok (.aload_n 0, 1) := by decide +kernel
theorem dX7_drawn_62 : decode cX7_drawn 62 = .ok (.invokevirtual 195, 3) := by decide +kernel
