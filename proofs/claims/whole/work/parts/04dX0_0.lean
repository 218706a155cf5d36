theorem dX0_init_0 : decode cX0_init 0 = .ok (.aload_n 0, 1) := by decide +kernel
theorem dX0_init_1 : decode cX0_init 1 = .ok (.invokespecial 5, 3) := by decide +kernel
theorem dX0_init_4 : decode cX0_init 4 = .ok (.aload_n 0, 1) := by decide +kernel
theorem dX0_init_5 : decode cX0_init 5 = .ok (.bipush 51, 2) := by decide +kernel
theorem dX0_init_7 : decode cX0_init 7 = .ok (.newarray .int, 2) := by decide +kernel
theorem dX0_init_9 : decode cX0_init 9 = .ok (.putfield 11, 3) := by decide +kernel
theorem dX0_init_12 : decode cX0_init 12 = .ok (.return_, 1) := by decide +kernel
theorem dX0_modulus_0 : decode cX0_modulus 0 = .ok (.aload_n 0, 1) := by decide +kernel
theorem dX0_modulus_1 : decode cX0_modulus 1 = .ok (.getfield 11, 3) := by decide +kernel
theorem dX0_modulus_4 : decode cX0_modulus 4 = .ok (.iconst 0, 1) := by decide +kernel
theorem dX0_modulus_5 : decode cX0_modulus 5 = .ok (.iaload, 1) := by decide +kernel
theorem dX0_modulus_6 : decode cX0_modulus 6 = .ok (.ireturn, 1) := by decide +kernel
theorem dX0_width_0 : decode cX0_width 0 = .ok (.aload_n 0, 1) := by decide +kernel
theorem dX0_width_1 : decode cX0_width 1 = .ok (.getfield 11, 3) := by decide +kernel
theorem dX0_width_4 : decode cX0_width 4 = .ok (.iconst 1, 1) := by decide +kernel
theorem dX0_width_5 : decode cX0_width 5 = .ok (.iaload, 1) := by decide +kernel
theorem dX0_width_6 : decode cX0_width 6 = .ok (.ireturn, 1) := by decide +kernel
theorem dX0_equationCount_0 : decode cX0_equationCount 0 = .ok (.aload_n 0, 1) := by decide +kernel
theorem dX0_equationCount_1 : decode cX0_equationCount 1 = .ok (.getfield 11, 3) := by decide +kernel
theorem dX0_equationCount_4 : decode cX0_equationCount 4 = .ok (.iconst 2, 1) := by decide +kernel
theorem dX0_equationCount_5 : decode cX0_equationCount 5 = .ok (.iaload, 1) := by decide +kernel
theorem dX0_equationCount_6 : decode cX0_equationCount 6 = .ok (.ireturn, 1) := by decide +kernel
theorem dX0_setEquationCount_0 : decode cX0_setEquationCount 0 = .ok (.aload_n 0, 1) := by decide +kernel
theorem dX0_setEquationCount_1 : decode cX0_setEquationCount 1 = .ok (.getfield 11, 3) := by decide +kernel
theorem dX0_setEquationCount_4 : decode cX0_setEquationCount 4 = .ok (.iconst 2, 1) := by decide +kernel
theorem dX0_setEquationCount_5 : decode cX0_setEquationCount 5 = .ok (.iconst 0, 1) := by decide +kernel
theorem dX0_setEquationCount_6 : decode cX0_setEquationCount 6 = .ok (.iload_n 1, 1) := by decide +kernel
theorem dX0_setEquationCount_7 : decode cX0_setEquationCount 7 = .ok (.iconst 3, 1) := by decide +kernel
theorem dX0_setEquationCount_8 : decode cX0_setEquationCount 8 = .ok (.invokestatic 15, 3) := by decide +kernel
theorem dX0_setEquationCount_11 : decode cX0_setEquationCount 11 = .ok (.invokestatic 21, 3) := by decide +kernel
theorem dX0_setEquationCount_14 : decode cX0_setEquationCount 14 = .ok (.iastore, 1) := by decide +kernel
theorem dX0_setEquationCount_15 : decode cX0_setEquationCount 15 = .ok (.return_, 1) := by decide +kernel
theorem dX0_startAnew_0 : decode cX0_startAnew 0 = .ok (.aload_n 0, 1) := by decide +kernel
theorem dX0_startAnew_1 : decode cX0_startAnew 1 = .ok (.getfield 11, 3) := by decide +kernel
theorem dX0_startAnew_4 : decode cX0_startAnew 4 = .ok (.iconst 0, 1) := by decide +kernel
theorem dX0_startAnew_5 : decode cX0_startAnew 5 = .ok (.invokestatic 24, 3) := by decide +kernel
theorem dX0_startAnew_8 : decode cX0_startAnew 8 = .ok (.aload_n 0, 1) := by decide +kernel
theorem dX0_startAnew_9 : decode cX0_startAnew 9 = .ok (.getfield 11, 3) := by decide +kernel
theorem dX0_startAnew_12 : decode cX0_startAnew 12 = .ok (.iconst 0, 1) := by decide +kernel
theorem dX0_startAnew_13 : decode cX0_startAnew 13 = .ok (.iload_n 1, 1) := by decide +kernel
theorem dX0_startAnew_14 : decode cX0_startAnew 14 = .ok (.iastore, 1) := by decide +kernel
theorem dX0_startAnew_15 : decode cX0_startAnew 15 = .ok (.aload_n 0, 1) := by decide +kernel
theorem dX0_startAnew_16 : decode cX0_startAnew 16 = .ok (.getfield 11, 3) := by decide +kernel
theorem dX0_startAnew_19 : decode cX0_startAnew 19 = .ok (.iconst 1, 1) := by decide +kernel
theorem dX0_startAnew_20 : decode cX0_startAnew 20 = .ok (.iconst 0, 1) := by decide +kernel
theorem dX0_startAnew_21 : decode cX0_startAnew 21 = .ok (.iload_n 2, 1) := by decide +kernel
theorem dX0_startAnew_22 : decode cX0_startAnew 22 = .ok (.iconst 3, 1) := by decide +kernel
theorem dX0_startAnew_23 : decode cX0_startAnew 23 = .ok (.invokestatic 15, 3) := by decide +kernel
theorem dX0_startAnew_26 : decode cX0_startAnew 26 = .ok (.invokestatic 21, 3) := by decide +kernel
theorem dX0_startAnew_29 : decode cX0_startAnew 29 = .ok (.iastore, 1) := by decide +kernel
theorem dX0_startAnew_30 : decode cX0_startAnew 30 = .ok (.return_, 1) := by decide +kernel
theorem dX0_copyTo_0 : decode cX0_copyTo 0 = .ok (.aload_n 0, 1) := by decide +kernel
theorem dX0_copyTo_1 : decode cX0_copyTo 1 = .ok (.getfield 11, 3) := by decide +kernel
theorem dX0_copyTo_4 : decode cX0_copyTo 4 = .ok (.iconst 0, 1) := by decide +kernel
theorem dX0_copyTo_5 : decode cX0_copyTo 5 = .ok (.aload_n 1, 1) := by decide +kernel
theorem dX0_copyTo_6 : decode cX0_copyTo 6 = .ok (.iconst 0, 1) := by decide +kernel
theorem dX0_copyTo_7 : decode cX0_copyTo 7 = .ok (.bipush 51, 2) := by decide +kernel
theorem dX0_copyTo_9 : decode cX0_copyTo 9 = .ok (.aload_n 1, 1) := by decide +kernel
theorem dX0_copyTo_10 : decode cX0_copyTo 10 = .ok (.arraylength, 1) := by decide +kernel
theorem dX0_copyTo_11 : decode cX0_copyTo 11 = .ok (.invokestatic 15, 3) := by decide +kernel
theorem dX0_copyTo_14 : decode cX0_copyTo 14 = .ok (.invokestatic 30, 3) := by decide +kernel
theorem dX0_copyTo_17 : decode cX0_copyTo 17 = .ok (.return_, 1) := by decide +kernel
theorem dX0_copyFrom_0 : decode cX0_copyFrom 0 = .ok (.aload_n 1, 1) := by decide +kernel
theorem dX0_copyFrom_1 : decode cX0_copyFrom 1 = .ok (.iconst 0, 1) := by decide +kernel
theorem dX0_copyFrom_2 : decode cX0_copyFrom 2 = .ok (.aload_n 0, 1) := by decide +kernel
theorem dX0_copyFrom_3 : decode cX0_copyFrom 3 = .ok (.getfield 11, 3) := by decide +kernel
theorem dX0_copyFrom_6 : decode cX0_copyFrom 6 = .ok (.iconst 0, 1) := by decide +kernel
theorem dX0_copyFrom_7 : decode cX0_copyFrom 7 = .ok (.bipush 51, 2) := by decide +kernel
theorem dX0_copyFrom_9 : decode cX0_copyFrom 9 = .ok (.aload_n 1, 1) := by decide +kernel
theorem dX0_copyFrom_10 : decode cX0_copyFrom 10 = .ok (.arraylength, 1) := by decide +kernel
theorem dX0_copyFrom_11 : decode cX0_copyFrom 11 = .ok (.invokestatic 15, 3) := by decide +kernel
theorem dX0_copyFrom_14 : decode cX0_copyFrom 14 = .ok (.invokestatic 30, 3) := by decide +kernel
theorem dX0_copyFrom_17 : decode cX0_copyFrom 17 = .ok (.return_, 1) := by decide +kernel
theorem dX0_hasPlace_0 : decode cX0_hasPlace 0 = .ok (.aload_n 0, 1) := by decide +kernel
theorem dX0_hasPlace_1 : decode cX0_hasPlace 1 = .ok (.getfield 11, 3) := by decide +kernel
theorem dX0_hasPlace_4 : decode cX0_hasPlace 4 = .ok (.iconst 0, 1) := by decide +kernel
theorem dX0_hasPlace_5 : decode cX0_hasPlace 5 = .ok (.iaload, 1) := by decide +kernel
theorem dX0_hasPlace_6 : decode cX0_hasPlace 6 = .ok (.ifCond .le 16, 3) := by decide +kernel
theorem dX0_hasPlace_9 : decode cX0_hasPlace 9 = .ok (.iload_n 1, 1) := by decide +kernel
theorem dX0_hasPlace_10 : decode cX0_hasPlace 10 = .ok (.ifCond .lt 12, 3) := by decide +kernel
theorem dX0_hasPlace_13 : decode cX0_hasPlace 13 = .ok (.iload_n 1, 1) := by decide +kernel
theorem dX0_hasPlace_14 : decode cX0_hasPlace 14 = .ok (.iconst 4, 1) := by decide +kernel
theorem dX0_hasPlace_15 : decode cX0_hasPlace 15 = .ok (.if_icmp .ge 7, 3) := by decide +kernel
theorem dX0_hasPlace_18 : decode cX0_hasPlace 18 = .ok (.iconst 1, 1) := by decide +kernel
theorem dX0_hasPlace_19 : decode cX0_hasPlace 19 = .ok (.goto 4, 3) := by decide +kernel
theorem dX0_hasPlace_22 : decode cX0_hasPlace 22 = .ok (.iconst 0, 1) := by decide +kernel
theorem dX0_hasPlace_23 : decode cX0_hasPlace 23 = .ok (.ireturn, 1) := by decide +kernel
theorem dX0_hasNumber_0 : decode cX0_hasNumber 0 = .ok (.iload_n 1, 1) := by decide +kernel
theorem dX0_hasNumber_1 : decode cX0_hasNumber 1 = .ok (.ifCond .lt 17, 3) := by decide +kernel
theorem dX0_hasNumber_4 : decode cX0_hasNumber 4 = .ok (.iload_n 1, 1) := by decide +kernel
theorem dX0_hasNumber_5 : decode cX0_hasNumber 5 = .ok (.aload_n 0, 1) := by decide +kernel
theorem dX0_hasNumber_6 : decode cX0_hasNumber 6 = .ok (.getfield 11, 3) := by decide +kernel
theorem dX0_hasNumber_9 : decode cX0_hasNumber 9 = .ok (.iconst 0, 1) := by decide +kernel
theorem dX0_hasNumber_10 : decode cX0_hasNumber 10 = .ok (.iaload, 1) := by decide +kernel
theorem dX0_hasNumber_11 : decode cX0_hasNumber 11 = .ok (.if_icmp .ge 7, 3) := by decide +kernel
theorem dX0_hasNumber_14 : decode cX0_hasNumber 14 = .ok (.iconst 1, 1) := by decide +kernel
theorem dX0_hasNumber_15 : decode cX0_hasNumber 15 = .ok (.goto 4, 3) := by decide +kernel
theorem dX0_hasNumber_18 : decode cX0_hasNumber 18 = .ok (.iconst 0, 1) := by decide +kernel
theorem dX0_hasNumber_19 : decode cX0_hasNumber 19 = .ok (.ireturn, 1) := by decide +kernel
theorem dX0_hasRow_0 : decode cX0_hasRow 0 = .ok (.aload_n 0, 1) := by decide +kernel
theorem dX0_hasRow_1 : decode cX0_hasRow 1 = .ok (.iconst 0, 1) := by decide +kernel
theorem dX0_hasRow_2 : decode cX0_hasRow 2 = .ok (.iload_n 1, 1) := by decide +kernel
theorem dX0_hasRow_3 : decode cX0_hasRow 3 = .ok (.invokevirtual 36, 3) := by decide +kernel
theorem dX0_hasRow_6 : decode cX0_hasRow 6 = .ok (.ifCond .eq 25, 3) := by decide +kernel
theorem dX0_hasRow_9 : decode cX0_hasRow 9 = .ok (.aload_n 0, 1) := by decide +kernel
theorem dX0_hasRow_10 : decode cX0_hasRow 10 = .ok (.iconst 1, 1) := by decide +kernel
theorem dX0_hasRow_11 : decode cX0_hasRow 11 = .ok (.iload_n 2, 1) := by decide +kernel
theorem dX0_hasRow_12 : decode cX0_hasRow 12 = .ok (.invokevirtual 36, 3) := by decide +kernel
theorem dX0_hasRow_15 : decode cX0_hasRow 15 = .ok (.ifCond .eq 16, 3) := by decide +kernel
theorem dX0_hasRow_18 : decode cX0_hasRow 18 = .ok (.aload_n 0, 1) := by decide +kernel
theorem dX0_hasRow_19 : decode cX0_hasRow 19 = .ok (.iconst 2, 1) := by decide +kernel
theorem dX0_hasRow_20 : decode cX0_hasRow 20 = .ok (.iload_n 3, 1) := by decide +kernel
theorem dX0_hasRow_21 : decode cX0_hasRow 21 = .ok (.invokevirtual 36, 3) := by decide +kernel
theorem dX0_hasRow_24 : decode cX0_hasRow 24 = .ok (.ifCond .eq 7, 3) := by decide +kernel
theorem dX0_hasRow_27 : decode cX0_hasRow 27 = .ok (.iconst 1, 1) := by decide +kernel
theorem dX0_hasRow_28 : decode cX0_hasRow 28 = .ok (.goto 4, 3) := by decide +kernel
theorem dX0_hasRow_31 : decode cX0_hasRow 31 = .ok (.iconst 0, 1) := by decide +kernel
theorem dX0_hasRow_32 : decode cX0_hasRow 32 = .ok (.ireturn, 1) := by decide +kernel
theorem dX0_fits_0 : decode cX0_fits 0 = .ok (.iload_n 1, 1) := by decide +kernel
theorem dX0_fits_1 : decode cX0_fits 1 = .ok (.aload_n 0, 1) := by decide +kernel
theorem dX0_fits_2 : decode cX0_fits 2 = .ok (.getfield 11, 3) := by decide +kernel
theorem dX0_fits_5 : decode cX0_fits 5 = .ok (.iconst 1, 1) := by decide +kernel
theorem dX0_fits_6 : decode cX0_fits 6 = .ok (.iaload, 1) := by decide +kernel
theorem dX0_fits_7 : decode cX0_fits 7 = .ok (.if_icmp .ge 11, 3) := by decide +kernel
theorem dX0_fits_10 : decode cX0_fits 10 = .ok (.aload_n 0, 1) := by decide +kernel
theorem dX0_fits_11 : decode cX0_fits 11 = .ok (.iload_n 2, 1) := by decide +kernel
theorem dX0_fits_12 : decode cX0_fits 12 = .ok (.invokevirtual 40, 3) := by decide +kernel
theorem dX0_fits_15 : decode cX0_fits 15 = .ok (.goto 12, 3) := by decide +kernel
theorem dX0_fits_18 : decode cX0_fits 18 = .ok (.iload_n 2, 1) := by decide +kernel
theorem dX0_fits_19 : decode cX0_fits 19 = .ok (.ifCond .ne 7, 3) := by decide +kernel
theorem dX0_fits_22 : decode cX0_fits 22 = .ok (.iconst 1, 1) := by decide +kernel
theorem dX0_fits_23 : decode cX0_fits 23 = .ok (.goto 4, 3) := by decide +kernel
theorem dX0_fits_26 : decode cX0_fits 26 = .ok (.iconst 0, 1) := by decide +kernel
theorem dX0_fits_27 : decode cX0_fits 27 = .ok (.ireturn, 1) := by decide +kernel
theorem dX0_residue_0 : decode cX0_residue 0 = .ok (.aload_n 0, 1) := by decide +kernel
theorem dX0_residue_1 : decode cX0_residue 1 = .ok (.getfield 11, 3) := by decide +kernel
theorem dX0_residue_4 : decode cX0_residue 4 = .ok (.iconst 0, 1) := by decide +kernel
theorem dX0_residue_5 : decode cX0_residue 5 = .ok (.iaload, 1) := by decide +kernel
theorem dX0_residue_6 : decode cX0_residue 6 = .ok (.istore_n 2, 1) := by decide +kernel
theorem dX0_residue_7 : decode cX0_residue 7 = .ok (.iload_n 2, 1) := by decide +kernel
theorem dX0_residue_8 : decode cX0_residue 8 = .ok (.ifCond .le 11, 3) := by decide +kernel
theorem dX0_residue_11 : decode cX0_residue 11 = .ok (.iload_n 1, 1) := by decide +kernel
theorem dX0_residue_12 : decode cX0_residue 12 = .ok (.iload_n 2, 1) := by decide +kernel
theorem dX0_residue_13 : decode cX0_residue 13 = .ok (.invokestatic 44, 3) := by decide +kernel
theorem dX0_residue_16 : decode cX0_residue 16 = .ok (.goto 4, 3) := by decide +kernel
theorem dX0_residue_19 : decode cX0_residue 19 = .ok (.iconst 0, 1) := by decide +kernel
theorem dX0_residue_20 : decode cX0_residue 20 = .ok (.ireturn, 1) := by decide +kernel
theorem dX0_formCell_0 : decode cX0_formCell 0 = .ok (.iload_n 0, 1) := by decide +kernel
theorem dX0_formCell_1 : decode cX0_formCell 1 = .ok (.ifCond .lt 26, 3) := by decide +kernel
theorem dX0_formCell_4 : decode cX0_formCell 4 = .ok (.iload_n 0, 1) := by decide +kernel
theorem dX0_formCell_5 : decode cX0_formCell 5 = .ok (.iconst 4, 1) := by decide +kernel
theorem dX0_formCell_6 : decode cX0_formCell 6 = .ok (.if_icmp .ge 21, 3) := by decide +kernel
theorem dX0_formCell_9 : decode cX0_formCell 9 = .ok (.iload_n 1, 1) := by decide +kernel
theorem dX0_formCell_10 : decode cX0_formCell 10 = .ok (.ifCond .lt 17, 3) := by decide +kernel
theorem dX0_formCell_13 : decode cX0_formCell 13 = .ok (.iload_n 1, 1) := by decide +kernel
theorem dX0_formCell_14 : decode cX0_formCell 14 = .ok (.iconst 3, 1) := by decide +kernel
theorem dX0_formCell_15 : decode cX0_formCell 15 = .ok (.if_icmp .ge 12, 3) := by decide +kernel
theorem dX0_formCell_18 : decode cX0_formCell 18 = .ok (.iload_n 2, 1) := by decide +kernel
theorem dX0_formCell_19 : decode cX0_formCell 19 = .ok (.ifCond .lt 8, 3) := by decide +kernel
theorem dX0_formCell_22 : decode cX0_formCell 22 = .ok (.iload_n 2, 1) := by decide +kernel
theorem dX0_formCell_23 : decode cX0_formCell 23 = .ok (.iconst 3, 1) := by decide +kernel
theorem dX0_formCell_24 : decode cX0_formCell 24 = .ok (.if_icmp .lt 5, 3) := by decide +kernel
theorem dX0_formCell_27 : decode cX0_formCell 27 = .ok (.iconst (-1), 1) := by decide +kernel
theorem dX0_formCell_28 : decode cX0_formCell 28 = .ok (.ireturn, 1) := by decide +kernel
theorem dX0_formCell_29 : decode cX0_formCell 29 = .ok (.iconst 3, 1) := by decide +kernel
theorem dX0_formCell_30 : decode cX0_formCell 30 = .ok (.iload_n 0, 1) := by decide +kernel
theorem dX0_formCell_31 : decode cX0_formCell 31 = .ok (.iconst 3, 1) := by decide +kernel
theorem dX0_formCell_32 : decode cX0_formCell 32 = .ok (.imul, 1) := by decide +kernel
theorem dX0_formCell_33 : decode cX0_formCell 33 = .ok (.iload_n 1, 1) := by decide +kernel
theorem dX0_formCell_34 : decode cX0_formCell 34 = .ok (.iadd, 1) := by decide +kernel
theorem dX0_formCell_35 : decode cX0_formCell 35 = .ok (.iconst 3, 1) := by decide +kernel
theorem dX0_formCell_36 : decode cX0_formCell 36 = .ok (.imul, 1) := by decide +kernel
theorem dX0_formCell_37 : decode cX0_formCell 37 = .ok (.iadd, 1) := by decide +kernel
theorem dX0_formCell_38 : decode cX0_formCell 38 = .ok (.iload_n 2, 1) := by decide +kernel
theorem dX0_formCell_39 : decode cX0_formCell 39 = .ok (.iadd, 1) := by decide +kernel
theorem dX0_formCell_40 : decode cX0_formCell 40 = .ok (.ireturn, 1) := by decide +kernel
theorem dX0_formAt_0 : decode cX0_formAt 0 = .ok (.iload_n 1, 1) := by decide +kernel
theorem dX0_formAt_1 : decode cX0_formAt 1 = .ok (.iload_n 2, 1) := by decide +kernel
theorem dX0_formAt_2 : decode cX0_formAt 2 = .ok (.iload_n 3, 1) := by decide +kernel
theorem dX0_formAt_3 : decode cX0_formAt 3 = .ok (.invokestatic 47, 3) := by decide +kernel
theorem dX0_formAt_6 : decode cX0_formAt 6 = .ok (.istore 4, 2) := by decide +kernel
theorem dX0_formAt_8 : decode cX0_formAt 8 = .ok (.iload 4, 2) := by decide +kernel
theorem dX0_formAt_10 : decode cX0_formAt 10 = .ok (.ifCond .lt 13, 3) := by decide +kernel
theorem dX0_formAt_13 : decode cX0_formAt 13 = .ok (.aload_n 0, 1) := by decide +kernel
theorem dX0_formAt_14 : decode cX0_formAt 14 = .ok (.getfield 11, 3) := by decide +kernel
theorem dX0_formAt_17 : decode cX0_formAt 17 = .ok (.iload 4, 2) := by decide +kernel
theorem dX0_formAt_19 : decode cX0_formAt 19 = .ok (.iaload, 1) := by decide +kernel
theorem dX0_formAt_20 : decode cX0_formAt 20 = .ok (.goto 4, 3) := by decide +kernel
theorem dX0_formAt_23 : decode cX0_formAt 23 = .ok (.iconst 0, 1) := by decide +kernel
theorem dX0_formAt_24 : decode cX0_formAt 24 = .ok (.ireturn, 1) := by decide +kernel
theorem dX0_setFormAt_0 : decode cX0_setFormAt 0 = .ok (.iload_n 1, 1) := by decide +kernel
theorem dX0_setFormAt_1 : decode cX0_setFormAt 1 = .ok (.iload_n 2, 1) := by decide +kernel
theorem dX0_setFormAt_2 : decode cX0_setFormAt 2 = .ok (.iload_n 3, 1) := by decide +kernel
theorem dX0_setFormAt_3 : decode cX0_setFormAt 3 = .ok (.invokestatic 47, 3) := by decide +kernel
theorem dX0_setFormAt_6 : decode cX0_setFormAt 6 = .ok (.istore 5, 2) := by decide +kernel
theorem dX0_setFormAt_8 : decode cX0_setFormAt 8 = .ok (.iload 5, 2) := by decide +kernel
theorem dX0_setFormAt_10 : decode cX0_setFormAt 10 = .ok (.ifCond .lt 12, 3) := by decide +kernel
theorem dX0_setFormAt_13 : decode cX0_setFormAt 13 = .ok (.aload_n 0, 1) := by decide +kernel
theorem dX0_setFormAt_14 : decode cX0_setFormAt 14 = .ok (.getfield 11, 3) := by decide +kernel
theorem dX0_setFormAt_17 : decode cX0_setFormAt 17 = .ok (.iload 5, 2) := by decide +kernel
theorem dX0_setFormAt_19 : decode cX0_setFormAt 19 = .ok (.iload 4, 2) := by decide +kernel
theorem dX0_setFormAt_21 : decode cX0_setFormAt 21 = .ok (.iastore, 1) := by decide +kernel
theorem dX0_setFormAt_22 : decode cX0_setFormAt 22 = .ok (.return_, 1) := by decide +kernel
theorem dX0_copyForm_0 : decode cX0_copyForm 0 = .ok (.iconst 0, 1) := by decide +kernel
theorem dX0_copyForm_1 : decode cX0_copyForm 1 = .ok (.istore 4, 2) := by decide +kernel
theorem dX0_copyForm_3 : decode cX0_copyForm 3 = .ok (.iload 4, 2) := by decide +kernel
theorem dX0_copyForm_5 : decode cX0_copyForm 5 = .ok (.aload_n 3, 1) := by decide +kernel
theorem dX0_copyForm_6 : decode cX0_copyForm 6 = .ok (.arraylength, 1) := by decide +kernel
theorem dX0_copyForm_7 : decode cX0_copyForm 7 = .ok (.if_icmp .ge 21, 3) := by decide +kernel
theorem dX0_copyForm_10 : decode cX0_copyForm 10 = .ok (.aload_n 3, 1) := by decide +kernel
theorem dX0_copyForm_11 : decode cX0_copyForm 11 = .ok (.iload 4, 2) := by decide +kernel
theorem dX0_copyForm_13 : decode cX0_copyForm 13 = .ok (.aload_n 0, 1) := by decide +kernel
theorem dX0_copyForm_14 : decode cX0_copyForm 14 = .ok (.iload_n 1, 1) := by decide +kernel
theorem dX0_copyForm_15 : decode cX0_copyForm 15 = .ok (.iload_n 2, 1) := by decide +kernel
theorem dX0_copyForm_16 : decode cX0_copyForm 16 = .ok (.iload 4, 2) := by decide +kernel
theorem dX0_copyForm_18 : decode cX0_copyForm 18 = .ok (.invokevirtual 51, 3) := by decide +kernel
theorem dX0_copyForm_21 : decode cX0_copyForm 21 = .ok (.iastore, 1) := by decide +kernel
theorem dX0_copyForm_22 : decode cX0_copyForm 22 = .ok (.iinc 4 1, 3) := by decide +kernel
theorem dX0_copyForm_25 : decode cX0_copyForm 25 = .ok (.goto (-22), 3) := by decide +kernel
theorem dX0_copyForm_28 : decode cX0_copyForm 28 = .ok (.return_, 1) := by decide +kernel
theorem dX0_setPlain_0 : decode cX0_setPlain 0 = .ok (.iconst 0, 1) := by decide +kernel
theorem dX0_setPlain_1 : decode cX0_setPlain 1 = .ok (.istore_n 3, 1) := by decide +kernel
theorem dX0_setPlain_2 : decode cX0_setPlain 2 = .ok (.iload_n 3, 1) := by decide +kernel
theorem dX0_setPlain_3 : decode cX0_setPlain 3 = .ok (.aload_n 0, 1) := by decide +kernel
theorem dX0_setPlain_4 : decode cX0_setPlain 4 = .ok (.getfield 11, 3) := by decide +kernel
theorem dX0_setPlain_7 : decode cX0_setPlain 7 = .ok (.iconst 1, 1) := by decide +kernel
theorem dX0_setPlain_8 : decode cX0_setPlain 8 = .ok (.iaload, 1) := by decide +kernel
theorem dX0_setPlain_9 : decode cX0_setPlain 9 = .ok (.if_icmp .ge 48, 3) := by decide +kernel
theorem dX0_setPlain_12 : decode cX0_setPlain 12 = .ok (.iconst 0, 1) := by decide +kernel
theorem dX0_setPlain_13 : decode cX0_setPlain 13 = .ok (.istore 4, 2) := by decide +kernel
theorem dX0_setPlain_15 : decode cX0_setPlain 15 = .ok (.iload 4, 2) := by decide +kernel
theorem dX0_setPlain_17 : decode cX0_setPlain 17 = .ok (.aload_n 0, 1) := by decide +kernel
theorem dX0_setPlain_18 : decode cX0_setPlain 18 = .ok (.getfield 11, 3) := by decide +kernel
theorem dX0_setPlain_21 : decode cX0_setPlain 21 = .ok (.iconst 1, 1) := by decide +kernel
theorem dX0_setPlain_22 : decode cX0_setPlain 22 = .ok (.iaload, 1) := by decide +kernel
theorem dX0_setPlain_23 : decode cX0_setPlain 23 = .ok (.if_icmp .ge 28, 3) := by decide +kernel
theorem dX0_setPlain_26 : decode cX0_setPlain 26 = .ok (.aload_n 0, 1) := by decide +kernel
theorem dX0_setPlain_27 : decode cX0_setPlain 27 = .ok (.iload_n 1, 1) := by decide +kernel
theorem dX0_setPlain_28 : decode cX0_setPlain 28 = .ok (.iload_n 3, 1) := by decide +kernel
theorem dX0_setPlain_29 : decode cX0_setPlain 29 = .ok (.iload 4, 2) := by decide +kernel
theorem dX0_setPlain_31 : decode cX0_setPlain 31 = .ok (.iload 4, 2) := by decide +kernel
theorem dX0_setPlain_33 : decode cX0_setPlain 33 = .ok (.iload_n 3, 1) := by decide +kernel
theorem dX0_setPlain_34 : decode cX0_setPlain 34 = .ok (.if_icmp .ne 7, 3) := by decide +kernel
theorem dX0_setPlain_37 : decode cX0_setPlain 37 = .ok (.iload_n 2, 1) := by decide +kernel
theorem dX0_setPlain_38 : decode cX0_setPlain 38 = .ok (.goto 4, 3) := by decide +kernel
theorem dX0_setPlain_41 : decode cX0_setPlain 41 = .ok (.iconst 0, 1) := by decide +kernel
theorem dX0_setPlain_42 : decode cX0_setPlain 42 = .ok (.invokevirtual 54, 3) := by decide +kernel
theorem dX0_setPlain_45 : decode cX0_setPlain 45 = .ok (.iinc 4 1, 3) := by decide +kernel
theorem dX0_setPlain_48 : decode cX0_setPlain 48 = .ok (.goto (-33), 3) := by decide +kernel
theorem dX0_setPlain_51 : decode cX0_setPlain 51 = .ok (.iinc 3 1, 3) := by decide +kernel
theorem dX0_setPlain_54 : decode cX0_setPlain 54 = .ok (.goto (-52), 3) := by decide +kernel
theorem dX0_setPlain_57 : decode cX0_setPlain 57 = .ok (.return_, 1) := by decide +kernel
theorem dX0_choices_0 : decode cX0_choices 0 = .ok (.aload_n 0, 1) := by decide +kernel
theorem dX0_choices_1 : decode cX0_choices 1 = .ok (.iload_n 1, 1) := by decide +kernel
theorem dX0_choices_2 : decode cX0_choices 2 = .ok (.iload_n 2, 1) := by decide +kernel
theorem dX0_choices_3 : decode cX0_choices 3 = .ok (.iload_n 2, 1) := by decide +kernel
theorem dX0_choices_4 : decode cX0_choices 4 = .ok (.invokevirtual 51, 3) := by decide +kernel
theorem dX0_choices_7 : decode cX0_choices 7 = .ok (.istore_n 3, 1) := by decide +kernel
theorem dX0_choices_8 : decode cX0_choices 8 = .ok (.iload_n 3, 1) := by decide +kernel
theorem dX0_choices_9 : decode cX0_choices 9 = .ok (.ifCond .le 18, 3) := by decide +kernel
theorem dX0_choices_12 : decode cX0_choices 12 = .ok (.iconst 1, 1) := by decide +kernel
theorem dX0_choices_13 : decode cX0_choices 13 = .ok (.aload_n 0, 1) := by decide +kernel
theorem dX0_choices_14 : decode cX0_choices 14 = .ok (.getfield 11, 3) := by decide +kernel
theorem dX0_choices_17 : decode cX0_choices 17 = .ok (.iconst 0, 1) := by decide +kernel
theorem dX0_choices_18 : decode cX0_choices 18 = .ok (.iaload, 1) := by decide +kernel
theorem dX0_choices_19 : decode cX0_choices 19 = .ok (.iload_n 3, 1) := by decide +kernel
theorem dX0_choices_20 : decode cX0_choices 20 = .ok (.idiv, 1) := by decide +kernel
theorem dX0_choices_21 : decode cX0_choices 21 = .ok (.invokestatic 21, 3) := by decide +kernel
theorem dX0_choices_24 : decode cX0_choices 24 = .ok (.goto 4, 3) := by decide +kernel
theorem dX0_choices_27 : decode cX0_choices 27 = .ok (.iconst 1, 1) := by decide +kernel
theorem dX0_choices_28 : decode cX0_choices 28 = .ok (.ireturn, 1) := by decide +kernel
theorem dX0_sizeOf_0 : decode cX0_sizeOf 0 = .ok (.aload_n 0, 1) := by decide +kernel
theorem dX0_sizeOf_1 : decode cX0_sizeOf 1 = .ok (.iload_n 1, 1) := by decide +kernel
theorem dX0_sizeOf_2 : decode cX0_sizeOf 2 = .ok (.iconst 0, 1) := by decide +kernel
theorem dX0_sizeOf_3 : decode cX0_sizeOf 3 = .ok (.invokevirtual 58, 3) := by decide +kernel
theorem dX0_sizeOf_6 : decode cX0_sizeOf 6 = .ok (.ireturn, 1) := by decide +kernel
theorem dX0_sizeFrom_0 : decode cX0_sizeFrom 0 = .ok (.iconst 1, 1) := by decide +kernel
theorem dX0_sizeFrom_1 : decode cX0_sizeFrom 1 = .ok (.istore_n 3, 1) := by decide +kernel
theorem dX0_sizeFrom_2 : decode cX0_sizeFrom 2 = .ok (.iload_n 2, 1) := by decide +kernel
theorem dX0_sizeFrom_3 : decode cX0_sizeFrom 3 = .ok (.istore 4, 2) := by decide +kernel
theorem dX0_sizeFrom_5 : decode cX0_sizeFrom 5 = .ok (.iload 4, 2) := by decide +kernel
theorem dX0_sizeFrom_7 : decode cX0_sizeFrom 7 = .ok (.aload_n 0, 1) := by decide +kernel
theorem dX0_sizeFrom_8 : decode cX0_sizeFrom 8 = .ok (.getfield 11, 3) := by decide +kernel
theorem dX0_sizeFrom_11 : decode cX0_sizeFrom 11 = .ok (.iconst 1, 1) := by decide +kernel
theorem dX0_sizeFrom_12 : decode cX0_sizeFrom 12 = .ok (.iaload, 1) := by decide +kernel
theorem dX0_sizeFrom_13 : decode cX0_sizeFrom 13 = .ok (.if_icmp .ge 19, 3) := by decide +kernel
theorem dX0_sizeFrom_16 : decode cX0_sizeFrom 16 = .ok (.iload_n 3, 1) := by decide +kernel
theorem dX0_sizeFrom_17 : decode cX0_sizeFrom 17 = .ok (.aload_n 0, 1) := by decide +kernel
theorem dX0_sizeFrom_18 : decode cX0_sizeFrom 18 = .ok (.iload_n 1, 1) := by decide +kernel
theorem dX0_sizeFrom_19 : decode cX0_sizeFrom 19 = .ok (.iload 4, 2) := by decide +kernel
theorem dX0_sizeFrom_21 : decode cX0_sizeFrom 21 = .ok (.invokevirtual 61, 3) := by decide +kernel
theorem dX0_sizeFrom_24 : decode cX0_sizeFrom 24 = .ok (.imul, 1) := by decide +kernel
theorem dX0_sizeFrom_25 : decode cX0_sizeFrom 25 = .ok (.istore_n 3, 1) := by decide +kernel
theorem dX0_sizeFrom_26 : decode cX0_sizeFrom 26 = .ok (.iinc 4 1, 3) := by decide +kernel
theorem dX0_sizeFrom_29 : decode cX0_sizeFrom 29 = .ok (.goto (-24), 3) := by decide +kernel
theorem dX0_sizeFrom_32 : decode cX0_sizeFrom 32 = .ok (.iload_n 3, 1) := by decide +kernel
theorem dX0_sizeFrom_33 : decode cX0_sizeFrom 33 = .ok (.ireturn, 1) := by decide +kernel
theorem dX0_addForm_0 : decode cX0_addForm 0 = .ok (.iload_n 2, 1) := by decide +kernel
theorem dX0_addForm_1 : decode cX0_addForm 1 = .ok (.istore 5, 2) := by decide +kernel
theorem dX0_addForm_3 : decode cX0_addForm 3 = .ok (.iload 5, 2) := by decide +kernel
theorem dX0_addForm_5 : decode cX0_addForm 5 = .ok (.aload 4, 2) := by decide +kernel
theorem dX0_addForm_7 : decode cX0_addForm 7 = .ok (.arraylength, 1) := by decide +kernel
theorem dX0_addForm_8 : decode cX0_addForm 8 = .ok (.if_icmp .ge 34, 3) := by decide +kernel
theorem dX0_addForm_11 : decode cX0_addForm 11 = .ok (.aload 4, 2) := by decide +kernel
theorem dX0_addForm_13 : decode cX0_addForm 13 = .ok (.iload 5, 2) := by decide +kernel
theorem dX0_addForm_15 : decode cX0_addForm 15 = .ok (.aload_n 0, 1) := by decide +kernel
theorem dX0_addForm_16 : decode cX0_addForm 16 = .ok (.aload 4, 2) := by decide +kernel
theorem dX0_addForm_18 : decode cX0_addForm 18 = .ok (.iload 5, 2) := by decide +kernel
theorem dX0_addForm_20 : decode cX0_addForm 20 = .ok (.iaload, 1) := by decide +kernel
theorem dX0_addForm_21 : decode cX0_addForm 21 = .ok (.iload_n 3, 1) := by decide +kernel
theorem dX0_addForm_22 : decode cX0_addForm 22 = .ok (.aload_n 0, 1) := by decide +kernel
theorem dX0_addForm_23 : decode cX0_addForm 23 = .ok (.iload_n 1, 1) := by decide +kernel
theorem dX0_addForm_24 : decode cX0_addForm 24 = .ok (.iload_n 2, 1) := by decide +kernel
theorem dX0_addForm_25 : decode cX0_addForm 25 = .ok (.iload 5, 2) := by decide +kernel
theorem dX0_addForm_27 : decode cX0_addForm 27 = .ok (.invokevirtual 51, 3) := by decide +kernel
theorem dX0_addForm_30 : decode cX0_addForm 30 = .ok (.imul, 1) := by decide +kernel
theorem dX0_addForm_31 : decode cX0_addForm 31 = .ok (.iadd, 1) := by decide +kernel
theorem dX0_addForm_32 : decode cX0_addForm 32 = .ok (.invokevirtual 64, 3) := by decide +kernel
theorem dX0_addForm_35 : decode cX0_addForm 35 = .ok (.iastore, 1) := by decide +kernel
theorem dX0_addForm_36 : decode cX0_addForm 36 = .ok (.iinc 5 1, 3) := by decide +kernel
theorem dX0_addForm_39 : decode cX0_addForm 39 = .ok (.goto (-36), 3) := by decide +kernel
theorem dX0_addForm_42 : decode cX0_addForm 42 = .ok (.return_, 1) := by decide +kernel
theorem dX0_lessen_0 : decode cX0_lessen 0 = .ok (.iconst 0, 1) := by decide +kernel
theorem dX0_lessen_1 : decode cX0_lessen 1 = .ok (.istore_n 3, 1) := by decide +kernel
theorem dX0_lessen_2 : decode cX0_lessen 2 = .ok (.iload_n 3, 1) := by decide +kernel
theorem dX0_lessen_3 : decode cX0_lessen 3 = .ok (.aload_n 0, 1) := by decide +kernel
theorem dX0_lessen_4 : decode cX0_lessen 4 = .ok (.getfield 11, 3) := by decide +kernel
theorem dX0_lessen_7 : decode cX0_lessen 7 = .ok (.iconst 1, 1) := by decide +kernel
theorem dX0_lessen_8 : decode cX0_lessen 8 = .ok (.iaload, 1) := by decide +kernel
theorem dX0_lessen_9 : decode cX0_lessen 9 = .ok (.if_icmp .ge 43, 3) := by decide +kernel
theorem dX0_lessen_12 : decode cX0_lessen 12 = .ok (.iload_n 3, 1) := by decide +kernel
theorem dX0_lessen_13 : decode cX0_lessen 13 = .ok (.aload_n 2, 1) := by decide +kernel
theorem dX0_lessen_14 : decode cX0_lessen 14 = .ok (.arraylength, 1) := by decide +kernel
theorem dX0_lessen_15 : decode cX0_lessen 15 = .ok (.if_icmp .ge 37, 3) := by decide +kernel
theorem dX0_lessen_18 : decode cX0_lessen 18 = .ok (.aload_n 0, 1) := by decide +kernel
theorem dX0_lessen_19 : decode cX0_lessen 19 = .ok (.iload_n 1, 1) := by decide +kernel
theorem dX0_lessen_20 : decode cX0_lessen 20 = .ok (.iload_n 3, 1) := by decide +kernel
theorem dX0_lessen_21 : decode cX0_lessen 21 = .ok (.iload_n 3, 1) := by decide +kernel
theorem dX0_lessen_22 : decode cX0_lessen 22 = .ok (.invokevirtual 51, 3) := by decide +kernel
theorem dX0_lessen_25 : decode cX0_lessen 25 = .ok (.istore 4, 2) := by decide +kernel
theorem dX0_lessen_27 : decode cX0_lessen 27 = .ok (.iload 4, 2) := by decide +kernel
theorem dX0_lessen_29 : decode cX0_lessen 29 = .ok (.ifCond .le 17, 3) := by decide +kernel
theorem dX0_lessen_32 : decode cX0_lessen 32 = .ok (.aload_n 0, 1) := by decide +kernel
theorem dX0_lessen_33 : decode cX0_lessen 33 = .ok (.iload_n 1, 1) := by decide +kernel
theorem dX0_lessen_34 : decode cX0_lessen 34 = .ok (.iload_n 3, 1) := by decide +kernel
theorem dX0_lessen_35 : decode cX0_lessen 35 = .ok (.aload_n 2, 1) := by decide +kernel
theorem dX0_lessen_36 : decode cX0_lessen 36 = .ok (.iload_n 3, 1) := by decide +kernel
theorem dX0_lessen_37 : decode cX0_lessen 37 = .ok (.iaload, 1) := by decide +kernel
theorem dX0_lessen_38 : decode cX0_lessen 38 = .ok (.iload 4, 2) := by decide +kernel
theorem dX0_lessen_40 : decode cX0_lessen 40 = .ok (.idiv, 1) := by decide +kernel
theorem dX0_lessen_41 : decode cX0_lessen 41 = .ok (.ineg, 1) := by decide +kernel
theorem dX0_lessen_42 : decode cX0_lessen 42 = .ok (.aload_n 2, 1) := by decide +kernel
theorem dX0_lessen_43 : decode cX0_lessen 43 = .ok (.invokevirtual 68, 3) := by decide +kernel
theorem dX0_lessen_46 : decode cX0_lessen 46 = .ok (.iinc 3 1, 3) := by decide +kernel
theorem dX0_lessen_49 : decode cX0_lessen 49 = .ok (.goto (-47), 3) := by decide +kernel
theorem dX0_lessen_52 : decode cX0_lessen 52 = .ok (.return_, 1) := by decide +kernel
theorem dX0_findRanked_0 : decode cX0_findRanked 0 = .ok (.aload_n 3, 1) := by decide +kernel
theorem dX0_findRanked_1 : decode cX0_findRanked 1 = .ok (.iconst 0, 1) := by decide +kernel
theorem dX0_findRanked_2 : decode cX0_findRanked 2 = .ok (.invokestatic 24, 3) := by decide +kernel
theorem dX0_findRanked_5 : decode cX0_findRanked 5 = .ok (.iload_n 2, 1) := by decide +kernel
theorem dX0_findRanked_6 : decode cX0_findRanked 6 = .ok (.istore 4, 2) := by decide +kernel
theorem dX0_findRanked_8 : decode cX0_findRanked 8 = .ok (.iconst 0, 1) := by decide +kernel
theorem dX0_findRanked_9 : decode cX0_findRanked 9 = .ok (.istore 5, 2) := by decide +kernel
theorem dX0_findRanked_11 : decode cX0_findRanked 11 = .ok (.iload 5, 2) := by decide +kernel
theorem dX0_findRanked_13 : decode cX0_findRanked 13 = .ok (.aload_n 0, 1) := by decide +kernel
theorem dX0_findRanked_14 : decode cX0_findRanked 14 = .ok (.getfield 11, 3) := by decide +kernel
theorem dX0_findRanked_17 : decode cX0_findRanked 17 = .ok (.iconst 1, 1) := by decide +kernel
theorem dX0_findRanked_18 : decode cX0_findRanked 18 = .ok (.iaload, 1) := by decide +kernel
theorem dX0_findRanked_19 : decode cX0_findRanked 19 = .ok (.if_icmp .ge 75, 3) := by decide +kernel
theorem dX0_findRanked_22 : decode cX0_findRanked 22 = .ok (.iload 5, 2) := by decide +kernel
theorem dX0_findRanked_24 : decode cX0_findRanked 24 = .ok (.aload_n 3, 1) := by decide +kernel
theorem dX0_findRanked_25 : decode cX0_findRanked 25 = .ok (.arraylength, 1) := by decide +kernel
theorem dX0_findRanked_26 : decode cX0_findRanked 26 = .ok (.if_icmp .ge 68, 3) := by decide +kernel
theorem dX0_findRanked_29 : decode cX0_findRanked 29 = .ok (.iconst 1, 1) := by decide +kernel
theorem dX0_findRanked_30 : decode cX0_findRanked 30 = .ok (.aload_n 0, 1) := by decide +kernel
theorem dX0_findRanked_31 : decode cX0_findRanked 31 = .ok (.iload_n 1, 1) := by decide +kernel
theorem dX0_findRanked_32 : decode cX0_findRanked 32 = .ok (.iload 5, 2) := by decide +kernel
theorem dX0_findRanked_34 : decode cX0_findRanked 34 = .ok (.iconst 1, 1) := by decide +kernel
theorem dX0_findRanked_35 : decode cX0_findRanked 35 = .ok (.iadd, 1) := by decide +kernel
theorem dX0_findRanked_36 : decode cX0_findRanked 36 = .ok (.invokevirtual 58, 3) := by decide +kernel
theorem dX0_findRanked_39 : decode cX0_findRanked 39 = .ok (.invokestatic 21, 3) := by decide +kernel
theorem dX0_findRanked_42 : decode cX0_findRanked 42 = .ok (.istore 6, 2) := by decide +kernel
theorem dX0_findRanked_44 : decode cX0_findRanked 44 = .ok (.aload_n 0, 1) := by decide +kernel
theorem dX0_findRanked_45 : decode cX0_findRanked 45 = .ok (.iload_n 1, 1) := by decide +kernel
theorem dX0_findRanked_46 : decode cX0_findRanked 46 = .ok (.iload 5, 2) := by decide +kernel
theorem dX0_findRanked_48 : decode cX0_findRanked 48 = .ok (.iload 5, 2) := by decide +kernel
theorem dX0_findRanked_50 : decode cX0_findRanked 50 = .ok (.invokevirtual 51, 3) := by decide +kernel
theorem dX0_findRanked_53 : decode cX0_findRanked 53 = .ok (.istore 7, 2) := by decide +kernel
theorem dX0_findRanked_55 : decode cX0_findRanked 55 = .ok (.iload 7, 2) := by decide +kernel
theorem dX0_findRanked_57 : decode cX0_findRanked 57 = .ok (.ifCond .le 24, 3) := by decide +kernel
theorem dX0_findRanked_60 : decode cX0_findRanked 60 = .ok (.aload_n 0, 1) := by decide +kernel
theorem dX0_findRanked_61 : decode cX0_findRanked 61 = .ok (.iload_n 1, 1) := by decide +kernel
theorem dX0_findRanked_62 : decode cX0_findRanked 62 = .ok (.iload 5, 2) := by decide +kernel
theorem dX0_findRanked_64 : decode cX0_findRanked 64 = .ok (.iload 4, 2) := by decide +kernel
theorem dX0_findRanked_66 : decode cX0_findRanked 66 = .ok (.iload 6, 2) := by decide +kernel
theorem dX0_findRanked_68 : decode cX0_findRanked 68 = .ok (.idiv, 1) := by decide +kernel
theorem dX0_findRanked_69 : decode cX0_findRanked 69 = .ok (.aload_n 3, 1) := by decide +kernel
theorem dX0_findRanked_70 : decode cX0_findRanked 70 = .ok (.iload 5, 2) := by decide +kernel
theorem dX0_findRanked_72 : decode cX0_findRanked 72 = .ok (.iaload, 1) := by decide +kernel
theorem dX0_findRanked_73 : decode cX0_findRanked 73 = .ok (.iload 7, 2) := by decide +kernel
theorem dX0_findRanked_75 : decode cX0_findRanked 75 = .ok (.idiv, 1) := by decide +kernel
theorem dX0_findRanked_76 : decode cX0_findRanked 76 = .ok (.isub, 1) := by decide +kernel
theorem dX0_findRanked_77 : decode cX0_findRanked 77 = .ok (.aload_n 3, 1) := by decide +kernel
theorem dX0_findRanked_78 : decode cX0_findRanked 78 = .ok (.invokevirtual 68, 3) := by decide +kernel
theorem dX0_findRanked_81 : decode cX0_findRanked 81 = .ok (.iload 4, 2) := by decide +kernel
theorem dX0_findRanked_83 : decode cX0_findRanked 83 = .ok (.iload 6, 2) := by decide +kernel
theorem dX0_findRanked_85 : decode cX0_findRanked 85 = .ok (.irem, 1) := by decide +kernel
theorem dX0_findRanked_86 : decode cX0_findRanked 86 = .ok (.istore 4, 2) := by decide +kernel
theorem dX0_findRanked_88 : decode cX0_findRanked 88 = .ok (.iinc 5 1, 3) := by decide +kernel
theorem dX0_findRanked_91 : decode cX0_findRanked 91 = .ok (.goto (-80), 3) := by decide +kernel
theorem dX0_findRanked_94 : decode cX0_findRanked 94 = .ok (.return_, 1) := by decide +kernel
theorem dX0_countAhead_0 : decode cX0_countAhead 0 = .ok (.iconst 0, 1) := by decide +kernel
theorem dX0_countAhead_1 : decode cX0_countAhead 1 = .ok (.istore_n 3, 1) := by decide +kernel
theorem dX0_countAhead_2 : decode cX0_countAhead 2 = .ok (.iconst 0, 1) := by decide +kernel
theorem dX0_countAhead_3 : decode cX0_countAhead 3 = .ok (.istore 4, 2) := by decide +kernel
theorem dX0_countAhead_5 : decode cX0_countAhead 5 = .ok (.iload 4, 2) := by decide +kernel
theorem dX0_countAhead_7 : decode cX0_countAhead 7 = .ok (.aload_n 0, 1) := by decide +kernel
theorem dX0_countAhead_8 : decode cX0_countAhead 8 = .ok (.getfield 11, 3) := by decide +kernel
theorem dX0_countAhead_11 : decode cX0_countAhead 11 = .ok (.iconst 1, 1) := by decide +kernel
theorem dX0_countAhead_12 : decode cX0_countAhead 12 = .ok (.iaload, 1) := by decide +kernel
theorem dX0_countAhead_13 : decode cX0_countAhead 13 = .ok (.if_icmp .ge 52, 3) := by decide +kernel
theorem dX0_countAhead_16 : decode cX0_countAhead 16 = .ok (.iload 4, 2) := by decide +kernel
theorem dX0_countAhead_18 : decode cX0_countAhead 18 = .ok (.aload_n 2, 1) := by decide +kernel
theorem dX0_countAhead_19 : decode cX0_countAhead 19 = .ok (.arraylength, 1) := by decide +kernel
theorem dX0_countAhead_20 : decode cX0_countAhead 20 = .ok (.if_icmp .ge 45, 3) := by decide +kernel
theorem dX0_countAhead_23 : decode cX0_countAhead 23 = .ok (.aload_n 0, 1) := by decide +kernel
theorem dX0_countAhead_24 : decode cX0_countAhead 24 = .ok (.iload_n 1, 1) := by decide +kernel
theorem dX0_countAhead_25 : decode cX0_countAhead 25 = .ok (.iload 4, 2) := by decide +kernel
theorem dX0_countAhead_27 : decode cX0_countAhead 27 = .ok (.iload 4, 2) := by decide +kernel
theorem dX0_countAhead_29 : decode cX0_countAhead 29 = .ok (.invokevirtual 51, 3) := by decide +kernel
theorem dX0_countAhead_32 : decode cX0_countAhead 32 = .ok (.istore 5, 2) := by decide +kernel
theorem dX0_countAhead_34 : decode cX0_countAhead 34 = .ok (.iload 5, 2) := by decide +kernel
theorem dX0_countAhead_36 : decode cX0_countAhead 36 = .ok (.ifCond .le 23, 3) := by decide +kernel
theorem dX0_countAhead_39 : decode cX0_countAhead 39 = .ok (.iload_n 3, 1) := by decide +kernel
theorem dX0_countAhead_40 : decode cX0_countAhead 40 = .ok (.aload_n 2, 1) := by decide +kernel
theorem dX0_countAhead_41 : decode cX0_countAhead 41 = .ok (.iload 4, 2) := by decide +kernel
theorem dX0_countAhead_43 : decode cX0_countAhead 43 = .ok (.iaload, 1) := by decide +kernel
theorem dX0_countAhead_44 : decode cX0_countAhead 44 = .ok (.iload 5, 2) := by decide +kernel
theorem dX0_countAhead_46 : decode cX0_countAhead 46 = .ok (.idiv, 1) := by decide +kernel
theorem dX0_countAhead_47 : decode cX0_countAhead 47 = .ok (.aload_n 0, 1) := by decide +kernel
theorem dX0_countAhead_48 : decode cX0_countAhead 48 = .ok (.iload_n 1, 1) := by decide +kernel
theorem dX0_countAhead_49 : decode cX0_countAhead 49 = .ok (.iload 4, 2) := by decide +kernel
theorem dX0_countAhead_51 : decode cX0_countAhead 51 = .ok (.iconst 1, 1) := by decide +kernel
theorem dX0_countAhead_52 : decode cX0_countAhead 52 = .ok (.iadd, 1) := by decide +kernel
theorem dX0_countAhead_53 : decode cX0_countAhead 53 = .ok (.invokevirtual 58, 3) := by decide +kernel
theorem dX0_countAhead_56 : decode cX0_countAhead 56 = .ok (.imul, 1) := by decide +kernel
theorem dX0_countAhead_57 : decode cX0_countAhead 57 = .ok (.iadd, 1) := by decide +kernel
theorem dX0_countAhead_58 : decode cX0_countAhead 58 = .ok (.istore_n 3, 1) := by decide +kernel
theorem dX0_countAhead_59 : decode cX0_countAhead 59 = .ok (.iinc 4 1, 3) := by decide +kernel
theorem dX0_countAhead_62 : decode cX0_countAhead 62 = .ok (.goto (-57), 3) := by decide +kernel
theorem dX0_countAhead_65 : decode cX0_countAhead 65 = .ok (.iload_n 3, 1) := by decide +kernel
theorem dX0_countAhead_66 : decode cX0_countAhead 66 = .ok (.ireturn, 1) := by decide +kernel
theorem dX0_leastNoughting_0 : decode cX0_leastNoughting 0 = .ok (.iconst 1, 1) := by decide +kernel
theorem dX0_leastNoughting_1 : decode cX0_leastNoughting 1 = .ok (.istore_n 2, 1) := by decide +kernel
theorem dX0_leastNoughting_2 : decode cX0_leastNoughting 2 = .ok (.iload_n 2, 1) := by decide +kernel
theorem dX0_leastNoughting_3 : decode cX0_leastNoughting 3 = .ok (.aload_n 0, 1) := by decide +kernel
theorem dX0_leastNoughting_4 : decode cX0_leastNoughting 4 = .ok (.getfield 11, 3) := by decide +kernel
theorem dX0_leastNoughting_7 : decode cX0_leastNoughting 7 = .ok (.iconst 0, 1) := by decide +kernel
theorem dX0_leastNoughting_8 : decode cX0_leastNoughting 8 = .ok (.iaload, 1) := by decide +kernel
theorem dX0_leastNoughting_9 : decode cX0_leastNoughting 9 = .ok (.if_icmp .ge 18, 3) := by decide +kernel
theorem dX0_leastNoughting_12 : decode cX0_leastNoughting 12 = .ok (.aload_n 0, 1) := by decide +kernel
theorem dX0_leastNoughting_13 : decode cX0_leastNoughting 13 = .ok (.iload_n 1, 1) := by decide +kernel
theorem dX0_leastNoughting_14 : decode cX0_leastNoughting 14 = .ok (.iload_n 2, 1) := by decide +kernel
theorem dX0_leastNoughting_15 : decode cX0_leastNoughting 15 = .ok (.invokevirtual 72, 3) := by decide +kernel
theorem dX0_leastNoughting_18 : decode cX0_leastNoughting 18 = .ok (.ifCond .ne 9, 3) := by decide +kernel
theorem dX0_leastNoughting_21 : decode cX0_leastNoughting 21 = .ok (.iinc 2 1, 3) := by decide +kernel
theorem dX0_leastNoughting_24 : decode cX0_leastNoughting 24 = .ok (.goto (-22), 3) := by decide +kernel
theorem dX0_leastNoughting_27 : decode cX0_leastNoughting 27 = .ok (.iload_n 2, 1) := by decide +kernel
theorem dX0_leastNoughting_28 : decode cX0_leastNoughting 28 = .ok (.ireturn, 1) := by decide +kernel
theorem dX0_noughts_0 : decode cX0_noughts 0 = .ok (.iconst 0, 1) := by decide +kernel
theorem dX0_noughts_1 : decode cX0_noughts 1 = .ok (.istore_n 3, 1) := by decide +kernel
theorem dX0_noughts_2 : decode cX0_noughts 2 = .ok (.iload_n 3, 1) := by decide +kernel
theorem dX0_noughts_3 : decode cX0_noughts 3 = .ok (.aload_n 0, 1) := by decide +kernel
theorem dX0_noughts_4 : decode cX0_noughts 4 = .ok (.getfield 11, 3) := by decide +kernel
theorem dX0_noughts_7 : decode cX0_noughts 7 = .ok (.iconst 1, 1) := by decide +kernel
theorem dX0_noughts_8 : decode cX0_noughts 8 = .ok (.iaload, 1) := by decide +kernel
theorem dX0_noughts_9 : decode cX0_noughts 9 = .ok (.if_icmp .ge 48, 3) := by decide +kernel
theorem dX0_noughts_12 : decode cX0_noughts 12 = .ok (.iload_n 3, 1) := by decide +kernel
theorem dX0_noughts_13 : decode cX0_noughts 13 = .ok (.istore 4, 2) := by decide +kernel
theorem dX0_noughts_15 : decode cX0_noughts 15 = .ok (.iload 4, 2) := by decide +kernel
theorem dX0_noughts_17 : decode cX0_noughts 17 = .ok (.aload_n 0, 1) := by decide +kernel
theorem dX0_noughts_18 : decode cX0_noughts 18 = .ok (.getfield 11, 3) := by decide +kernel
theorem dX0_noughts_21 : decode cX0_noughts 21 = .ok (.iconst 1, 1) := by decide +kernel
theorem dX0_noughts_22 : decode cX0_noughts 22 = .ok (.iaload, 1) := by decide +kernel
theorem dX0_noughts_23 : decode cX0_noughts 23 = .ok (.if_icmp .ge 28, 3) := by decide +kernel
theorem dX0_noughts_26 : decode cX0_noughts 26 = .ok (.aload_n 0, 1) := by decide +kernel
theorem dX0_noughts_27 : decode cX0_noughts 27 = .ok (.iload_n 2, 1) := by decide +kernel
theorem dX0_noughts_28 : decode cX0_noughts 28 = .ok (.aload_n 0, 1) := by decide +kernel
theorem dX0_noughts_29 : decode cX0_noughts 29 = .ok (.iload_n 1, 1) := by decide +kernel
theorem dX0_noughts_30 : decode cX0_noughts 30 = .ok (.iload_n 3, 1) := by decide +kernel
theorem dX0_noughts_31 : decode cX0_noughts 31 = .ok (.iload 4, 2) := by decide +kernel
theorem dX0_noughts_33 : decode cX0_noughts 33 = .ok (.invokevirtual 51, 3) := by decide +kernel
theorem dX0_noughts_36 : decode cX0_noughts 36 = .ok (.imul, 1) := by decide +kernel
theorem dX0_noughts_37 : decode cX0_noughts 37 = .ok (.invokevirtual 64, 3) := by decide +kernel
theorem dX0_noughts_40 : decode cX0_noughts 40 = .ok (.ifCond .eq 5, 3) := by decide +kernel
theorem dX0_noughts_43 : decode cX0_noughts 43 = .ok (.iconst 0, 1) := by decide +kernel
theorem dX0_noughts_44 : decode cX0_noughts 44 = .ok (.ireturn, 1) := by decide +kernel
theorem dX0_noughts_45 : decode cX0_noughts 45 = .ok (.iinc 4 1, 3) := by decide +kernel
theorem dX0_noughts_48 : decode cX0_noughts 48 = .ok (.goto (-33), 3) := by decide +kernel
theorem dX0_noughts_51 : decode cX0_noughts 51 = .ok (.iinc 3 1, 3) := by decide +kernel
theorem dX0_noughts_54 : decode cX0_noughts 54 = .ok (.goto (-52), 3) := by decide +kernel
theorem dX0_noughts_57 : decode cX0_noughts 57 = .ok (.iconst 1, 1) := by decide +kernel
theorem dX0_noughts_58 : decode cX0_noughts 58 = .ok (.ireturn, 1) := by decide +kernel
theorem dX0_sideCell_0 : decode cX0_sideCell 0 = .ok (.iload_n 0, 1) := by decide +kernel
theorem dX0_sideCell_1 : decode cX0_sideCell 1 = .ok (.ifCond .lt 17, 3) := by decide +kernel
theorem dX0_sideCell_4 : decode cX0_sideCell 4 = .ok (.iload_n 0, 1) := by decide +kernel
theorem dX0_sideCell_5 : decode cX0_sideCell 5 = .ok (.iconst 3, 1) := by decide +kernel
theorem dX0_sideCell_6 : decode cX0_sideCell 6 = .ok (.if_icmp .ge 12, 3) := by decide +kernel
theorem dX0_sideCell_9 : decode cX0_sideCell 9 = .ok (.iload_n 1, 1) := by decide +kernel
theorem dX0_sideCell_10 : decode cX0_sideCell 10 = .ok (.ifCond .lt 8, 3) := by decide +kernel
theorem dX0_sideCell_13 : decode cX0_sideCell 13 = .ok (.iload_n 1, 1) := by decide +kernel
theorem dX0_sideCell_14 : decode cX0_sideCell 14 = .ok (.iconst 4, 1) := by decide +kernel
theorem dX0_sideCell_15 : decode cX0_sideCell 15 = .ok (.if_icmp .lt 5, 3) := by decide +kernel
theorem dX0_sideCell_18 : decode cX0_sideCell 18 = .ok (.iconst (-1), 1) := by decide +kernel
theorem dX0_sideCell_19 : decode cX0_sideCell 19 = .ok (.ireturn, 1) := by decide +kernel
theorem dX0_sideCell_20 : decode cX0_sideCell 20 = .ok (.bipush 39, 2) := by decide +kernel
theorem dX0_sideCell_22 : decode cX0_sideCell 22 = .ok (.iload_n 0, 1) := by decide +kernel
theorem dX0_sideCell_23 : decode cX0_sideCell 23 = .ok (.iconst 4, 1) := by decide +kernel
theorem dX0_sideCell_24 : decode cX0_sideCell 24 = .ok (.imul, 1) := by decide +kernel
theorem dX0_sideCell_25 : decode cX0_sideCell 25 = .ok (.iadd, 1) := by decide +kernel
theorem dX0_sideCell_26 : decode cX0_sideCell 26 = .ok (.iload_n 1, 1) := by decide +kernel
theorem dX0_sideCell_27 : decode cX0_sideCell 27 = .ok (.iadd, 1) := by decide +kernel
theorem dX0_sideCell_28 : decode cX0_sideCell 28 = .ok (.ireturn, 1) := by decide +kernel
theorem dX0_sideAt_0 : decode cX0_sideAt 0 = .ok (.iload_n 1, 1) := by decide +kernel
theorem dX0_sideAt_1 : decode cX0_sideAt 1 = .ok (.iload_n 2, 1) := by decide +kernel
theorem dX0_sideAt_2 : decode cX0_sideAt 2 = .ok (.invokestatic 75, 3) := by decide +kernel
theorem dX0_sideAt_5 : decode cX0_sideAt 5 = .ok (.istore_n 3, 1) := by decide +kernel
theorem dX0_sideAt_6 : decode cX0_sideAt 6 = .ok (.iload_n 3, 1) := by decide +kernel
theorem dX0_sideAt_7 : decode cX0_sideAt 7 = .ok (.ifCond .lt 12, 3) := by decide +kernel
theorem dX0_sideAt_10 : decode cX0_sideAt 10 = .ok (.aload_n 0, 1) := by decide +kernel
theorem dX0_sideAt_11 : decode cX0_sideAt 11 = .ok (.getfield 11, 3) := by decide +kernel
theorem dX0_sideAt_14 : decode cX0_sideAt 14 = .ok (.iload_n 3, 1) := by decide +kernel
theorem dX0_sideAt_15 : decode cX0_sideAt 15 = .ok (.iaload, 1) := by decide +kernel
theorem dX0_sideAt_16 : decode cX0_sideAt 16 = .ok (.goto 4, 3) := by decide +kernel
theorem dX0_sideAt_19 : decode cX0_sideAt 19 = .ok (.iconst 0, 1) := by decide +kernel
theorem dX0_sideAt_20 : decode cX0_sideAt 20 = .ok (.ireturn, 1) := by decide +kernel
theorem dX0_setSideAt_0 : decode cX0_setSideAt 0 = .ok (.iload_n 1, 1) := by decide +kernel
theorem dX0_setSideAt_1 : decode cX0_setSideAt 1 = .ok (.iload_n 2, 1) := by decide +kernel
theorem dX0_setSideAt_2 : decode cX0_setSideAt 2 = .ok (.invokestatic 75, 3) := by decide +kernel
theorem dX0_setSideAt_5 : decode cX0_setSideAt 5 = .ok (.istore 4, 2) := by decide +kernel
theorem dX0_setSideAt_7 : decode cX0_setSideAt 7 = .ok (.iload 4, 2) := by decide +kernel
theorem dX0_setSideAt_9 : decode cX0_setSideAt 9 = .ok (.ifCond .lt 11, 3) := by decide +kernel
theorem dX0_setSideAt_12 : decode cX0_setSideAt 12 = .ok (.aload_n 0, 1) := by decide +kernel
theorem dX0_setSideAt_13 : decode cX0_setSideAt 13 = .ok (.getfield 11, 3) := by decide +kernel
theorem dX0_setSideAt_16 : decode cX0_setSideAt 16 = .ok (.iload 4, 2) := by decide +kernel
theorem dX0_setSideAt_18 : decode cX0_setSideAt 18 = .ok (.iload_n 3, 1) := by decide +kernel
theorem dX0_setSideAt_19 : decode cX0_setSideAt 19 = .ok (.iastore, 1) := by decide +kernel
theorem dX0_setSideAt_20 : decode cX0_setSideAt 20 = .ok (.return_, 1) := by decide +kernel
theorem dX0_setEquation_0 : decode cX0_setEquation 0 = .ok (.iconst 0, 1) := by decide +kernel
theorem dX0_setEquation_1 : decode cX0_setEquation 1 = .ok (.istore 4, 2) := by decide +kernel
theorem dX0_setEquation_3 : decode cX0_setEquation 3 = .ok (.iload 4, 2) := by decide +kernel
theorem dX0_setEquation_5 : decode cX0_setEquation 5 = .ok (.iconst 3, 1) := by decide +kernel
theorem dX0_setEquation_6 : decode cX0_setEquation 6 = .ok (.if_icmp .ge 27, 3) := by decide +kernel
theorem dX0_setEquation_9 : decode cX0_setEquation 9 = .ok (.iload 4, 2) := by decide +kernel
theorem dX0_setEquation_11 : decode cX0_setEquation 11 = .ok (.aload_n 2, 1) := by decide +kernel
theorem dX0_setEquation_12 : decode cX0_setEquation 12 = .ok (.arraylength, 1) := by decide +kernel
theorem dX0_setEquation_13 : decode cX0_setEquation 13 = .ok (.if_icmp .ge 20, 3) := by decide +kernel
theorem dX0_setEquation_16 : decode cX0_setEquation 16 = .ok (.aload_n 0, 1) := by decide +kernel
theorem dX0_setEquation_17 : decode cX0_setEquation 17 = .ok (.iload_n 1, 1) := by decide +kernel
theorem dX0_setEquation_18 : decode cX0_setEquation 18 = .ok (.iload 4, 2) := by decide +kernel
theorem dX0_setEquation_20 : decode cX0_setEquation 20 = .ok (.aload_n 2, 1) := by decide +kernel
theorem dX0_setEquation_21 : decode cX0_setEquation 21 = .ok (.iload 4, 2) := by decide +kernel
theorem dX0_setEquation_23 : decode cX0_setEquation 23 = .ok (.iaload, 1) := by decide +kernel
theorem dX0_setEquation_24 : decode cX0_setEquation 24 = .ok (.invokevirtual 78, 3) := by decide +kernel
theorem dX0_setEquation_27 : decode cX0_setEquation 27 = .ok (.iinc 4 1, 3) := by decide +kernel
theorem dX0_setEquation_30 : decode cX0_setEquation 30 = .ok (.goto (-27), 3) := by decide +kernel
theorem dX0_setEquation_33 : decode cX0_setEquation 33 = .ok (.aload_n 0, 1) := by decide +kernel
theorem dX0_setEquation_34 : decode cX0_setEquation 34 = .ok (.iload_n 1, 1) := by decide +kernel
theorem dX0_setEquation_35 : decode cX0_setEquation 35 = .ok (.iconst 3, 1) := by decide +kernel
theorem dX0_setEquation_36 : decode cX0_setEquation 36 = .ok (.iload_n 3, 1) := by decide +kernel
theorem dX0_setEquation_37 : decode cX0_setEquation 37 = .ok (.invokevirtual 78, 3) := by decide +kernel
theorem dX0_setEquation_40 : decode cX0_setEquation 40 = .ok (.return_, 1) := by decide +kernel
theorem dX0_removeEquation_0 : decode cX0_removeEquation 0 = .ok (.iload_n 1, 1) := by decide +kernel
theorem dX0_removeEquation_1 : decode cX0_removeEquation 1 = .ok (.istore_n 2, 1) := by decide +kernel
theorem dX0_removeEquation_2 : decode cX0_removeEquation 2 = .ok (.iload_n 2, 1) := by decide +kernel
theorem dX0_removeEquation_3 : decode cX0_removeEquation 3 = .ok (.aload_n 0, 1) := by decide +kernel
theorem dX0_removeEquation_4 : decode cX0_removeEquation 4 = .ok (.getfield 11, 3) := by decide +kernel
theorem dX0_removeEquation_7 : decode cX0_removeEquation 7 = .ok (.iconst 2, 1) := by decide +kernel
theorem dX0_removeEquation_8 : decode cX0_removeEquation 8 = .ok (.iaload, 1) := by decide +kernel
theorem dX0_removeEquation_9 : decode cX0_removeEquation 9 = .ok (.iconst 1, 1) := by decide +kernel
theorem dX0_removeEquation_10 : decode cX0_removeEquation 10 = .ok (.isub, 1) := by decide +kernel
theorem dX0_removeEquation_11 : decode cX0_removeEquation 11 = .ok (.if_icmp .ge 36, 3) := by decide +kernel
theorem dX0_removeEquation_14 : decode cX0_removeEquation 14 = .ok (.iconst 0, 1) := by decide +kernel
theorem dX0_removeEquation_15 : decode cX0_removeEquation 15 = .ok (.istore_n 3, 1) := by decide +kernel
theorem dX0_removeEquation_16 : decode cX0_removeEquation 16 = .ok (.iload_n 3, 1) := by decide +kernel
theorem dX0_removeEquation_17 : decode cX0_removeEquation 17 = .ok (.iconst 4, 1) := by decide +kernel
theorem dX0_removeEquation_18 : decode cX0_removeEquation 18 = .ok (.if_icmp .ge 23, 3) := by decide +kernel
theorem dX0_removeEquation_21 : decode cX0_removeEquation 21 = .ok (.aload_n 0, 1) := by decide +kernel
theorem dX0_removeEquation_22 : decode cX0_removeEquation 22 = .ok (.iload_n 2, 1) := by decide +kernel
theorem dX0_removeEquation_23 : decode cX0_removeEquation 23 = .ok (.iload_n 3, 1) := by decide +kernel
theorem dX0_removeEquation_24 : decode cX0_removeEquation 24 = .ok (.aload_n 0, 1) := by decide +kernel
theorem dX0_removeEquation_25 : decode cX0_removeEquation 25 = .ok (.iload_n 2, 1) := by decide +kernel
theorem dX0_removeEquation_26 : decode cX0_removeEquation 26 = .ok (.iconst 1, 1) := by decide +kernel
theorem dX0_removeEquation_27 : decode cX0_removeEquation 27 = .ok (.iadd, 1) := by decide +kernel
theorem dX0_removeEquation_28 : decode cX0_removeEquation 28 = .ok (.iload_n 3, 1) := by decide +kernel
theorem dX0_removeEquation_29 : decode cX0_removeEquation 29 = .ok (.invokevirtual 82, 3) := by decide +kernel
theorem dX0_removeEquation_32 : decode cX0_removeEquation 32 = .ok (.invokevirtual 78, 3) := by decide +kernel
theorem dX0_removeEquation_35 : decode cX0_removeEquation 35 = .ok (.iinc 3 1, 3) := by decide +kernel
theorem dX0_removeEquation_38 : decode cX0_removeEquation 38 = .ok (.goto (-22), 3) := by decide +kernel
theorem dX0_removeEquation_41 : decode cX0_removeEquation 41 = .ok (.iinc 2 1, 3) := by decide +kernel
theorem dX0_removeEquation_44 : decode cX0_removeEquation 44 = .ok (.goto (-42), 3) := by decide +kernel
theorem dX0_removeEquation_47 : decode cX0_removeEquation 47 = .ok (.aload_n 0, 1) := by decide +kernel
theorem dX0_removeEquation_48 : decode cX0_removeEquation 48 = .ok (.aload_n 0, 1) := by decide +kernel
theorem dX0_removeEquation_49 : decode cX0_removeEquation 49 = .ok (.getfield 11, 3) := by decide +kernel
theorem dX0_removeEquation_52 : decode cX0_removeEquation 52 = .ok (.iconst 2, 1) := by decide +kernel
theorem dX0_removeEquation_53 : decode cX0_removeEquation 53 = .ok (.iaload, 1) := by decide +kernel
theorem dX0_removeEquation_54 : decode cX0_removeEquation 54 = .ok (.iconst 1, 1) := by decide +kernel
theorem dX0_removeEquation_55 : decode cX0_removeEquation 55 = .ok (.isub, 1) := by decide +kernel
theorem dX0_removeEquation_56 : decode cX0_removeEquation 56 = .ok (.invokevirtual 85, 3) := by decide +kernel
theorem dX0_removeEquation_59 : decode cX0_removeEquation 59 = .ok (.return_, 1) := by decide +kernel
