theorem dX3_init_0 : decode cX3_init 0 = .ok (.aload_n 0, 1) := by decide +kernel
theorem dX3_init_1 : decode cX3_init 1 = .ok (.invokespecial 3, 3) := by decide +kernel
theorem dX3_init_4 : decode cX3_init 4 = .ok (.aload_n 0, 1) := by decide +kernel
theorem dX3_init_5 : decode cX3_init 5 = .ok (.new 9, 3) := by decide +kernel
theorem dX3_init_8 : decode cX3_init 8 = .ok (.dup, 1) := by decide +kernel
theorem dX3_init_9 : decode cX3_init 9 = .ok (.invokespecial 11, 3) := by decide +kernel
theorem dX3_init_12 : decode cX3_init 12 = .ok (.putfield 12, 3) := by decide +kernel
theorem dX3_init_15 : decode cX3_init 15 = .ok (.return_, 1) := by decide +kernel
theorem dX3_absorb_0 : decode cX3_absorb 0 = .ok (.aload_n 0, 1) := by decide +kernel
theorem dX3_absorb_1 : decode cX3_absorb 1 = .ok (.getfield 12, 3) := by decide +kernel
theorem dX3_absorb_4 : decode cX3_absorb 4 = .ok (.aload_n 1, 1) := by decide +kernel
theorem dX3_absorb_5 : decode cX3_absorb 5 = .ok (.invokevirtual 18, 3) := by decide +kernel
theorem dX3_absorb_8 : decode cX3_absorb 8 = .ok (.aload_n 1, 1) := by decide +kernel
theorem dX3_absorb_9 : decode cX3_absorb 9 = .ok (.invokevirtual 24, 3) := by decide +kernel
theorem dX3_absorb_12 : decode cX3_absorb 12 = .ok (.invokevirtual 27, 3) := by decide +kernel
theorem dX3_absorb_15 : decode cX3_absorb 15 = .ok (.aload_n 0, 1) := by decide +kernel
theorem dX3_absorb_16 : decode cX3_absorb 16 = .ok (.aload_n 1, 1) := by decide +kernel
theorem dX3_absorb_17 : decode cX3_absorb 17 = .ok (.iload_n 2, 1) := by decide +kernel
theorem dX3_absorb_18 : decode cX3_absorb 18 = .ok (.iconst 1, 1) := by decide +kernel
theorem dX3_absorb_19 : decode cX3_absorb 19 = .ok (.iconst 0, 1) := by decide +kernel
theorem dX3_absorb_20 : decode cX3_absorb 20 = .ok (.invokevirtual 31, 3) := by decide +kernel
theorem dX3_absorb_23 : decode cX3_absorb 23 = .ok (.aload_n 0, 1) := by decide +kernel
theorem dX3_absorb_24 : decode cX3_absorb 24 = .ok (.getfield 12, 3) := by decide +kernel
theorem dX3_absorb_27 : decode cX3_absorb 27 = .ok (.invokevirtual 35, 3) := by decide +kernel
theorem dX3_absorb_30 : decode cX3_absorb 30 = .ok (.iconst 0, 1) := by decide +kernel
theorem dX3_absorb_31 : decode cX3_absorb 31 = .ok (.istore 4, 2) := by decide +kernel
theorem dX3_absorb_33 : decode cX3_absorb 33 = .ok (.iload 4, 2) := by decide +kernel
theorem dX3_absorb_35 : decode cX3_absorb 35 = .ok (.aload_n 3, 1) := by decide +kernel
theorem dX3_absorb_36 : decode cX3_absorb 36 = .ok (.arraylength, 1) := by decide +kernel
theorem dX3_absorb_37 : decode cX3_absorb 37 = .ok (.if_icmp .ge 22, 3) := by decide +kernel
theorem dX3_absorb_40 : decode cX3_absorb 40 = .ok (.aload_n 0, 1) := by decide +kernel
theorem dX3_absorb_41 : decode cX3_absorb 41 = .ok (.getfield 12, 3) := by decide +kernel
theorem dX3_absorb_44 : decode cX3_absorb 44 = .ok (.iload 4, 2) := by decide +kernel
theorem dX3_absorb_46 : decode cX3_absorb 46 = .ok (.aload_n 3, 1) := by decide +kernel
theorem dX3_absorb_47 : decode cX3_absorb 47 = .ok (.iload 4, 2) := by decide +kernel
theorem dX3_absorb_49 : decode cX3_absorb 49 = .ok (.iaload, 1) := by decide +kernel
theorem dX3_absorb_50 : decode cX3_absorb 50 = .ok (.invokevirtual 38, 3) := by decide +kernel
theorem dX3_absorb_53 : decode cX3_absorb 53 = .ok (.iinc 4 1, 3) := by decide +kernel
theorem dX3_absorb_56 : decode cX3_absorb 56 = .ok (.goto (-23), 3) := by decide +kernel
theorem dX3_absorb_59 : decode cX3_absorb 59 = .ok (.aload_n 0, 1) := by decide +kernel
theorem dX3_absorb_60 : decode cX3_absorb 60 = .ok (.getfield 12, 3) := by decide +kernel
theorem dX3_absorb_63 : decode cX3_absorb 63 = .ok (.invokevirtual 41, 3) := by decide +kernel
theorem dX3_absorb_66 : decode cX3_absorb 66 = .ok (.aload_n 0, 1) := by decide +kernel
theorem dX3_absorb_67 : decode cX3_absorb 67 = .ok (.aload_n 1, 1) := by decide +kernel
theorem dX3_absorb_68 : decode cX3_absorb 68 = .ok (.iload_n 2, 1) := by decide +kernel
theorem dX3_absorb_69 : decode cX3_absorb 69 = .ok (.iconst 0, 1) := by decide +kernel
theorem dX3_absorb_70 : decode cX3_absorb 70 = .ok (.invokevirtual 44, 3) := by decide +kernel
theorem dX3_absorb_73 : decode cX3_absorb 73 = .ok (.return_, 1) := by decide +kernel
theorem dX3_putJoined_0 : decode cX3_putJoined 0 = .ok (.aload_n 0, 1) := by decide +kernel
theorem dX3_putJoined_1 : decode cX3_putJoined 1 = .ok (.getfield 12, 3) := by decide +kernel
theorem dX3_putJoined_4 : decode cX3_putJoined 4 = .ok (.aload_n 1, 1) := by decide +kernel
theorem dX3_putJoined_5 : decode cX3_putJoined 5 = .ok (.invokevirtual 18, 3) := by decide +kernel
theorem dX3_putJoined_8 : decode cX3_putJoined 8 = .ok (.aload_n 1, 1) := by decide +kernel
theorem dX3_putJoined_9 : decode cX3_putJoined 9 = .ok (.invokevirtual 24, 3) := by decide +kernel
theorem dX3_putJoined_12 : decode cX3_putJoined 12 = .ok (.invokevirtual 27, 3) := by decide +kernel
theorem dX3_putJoined_15 : decode cX3_putJoined 15 = .ok (.aload_n 0, 1) := by decide +kernel
theorem dX3_putJoined_16 : decode cX3_putJoined 16 = .ok (.aload_n 1, 1) := by decide +kernel
theorem dX3_putJoined_17 : decode cX3_putJoined 17 = .ok (.iload_n 2, 1) := by decide +kernel
theorem dX3_putJoined_18 : decode cX3_putJoined 18 = .ok (.iconst 1, 1) := by decide +kernel
theorem dX3_putJoined_19 : decode cX3_putJoined 19 = .ok (.iconst 0, 1) := by decide +kernel
theorem dX3_putJoined_20 : decode cX3_putJoined 20 = .ok (.invokevirtual 31, 3) := by decide +kernel
theorem dX3_putJoined_23 : decode cX3_putJoined 23 = .ok (.aload_n 0, 1) := by decide +kernel
theorem dX3_putJoined_24 : decode cX3_putJoined 24 = .ok (.aload_n 1, 1) := by decide +kernel
theorem dX3_putJoined_25 : decode cX3_putJoined 25 = .ok (.iload_n 3, 1) := by decide +kernel
theorem dX3_putJoined_26 : decode cX3_putJoined 26 = .ok (.iconst 1, 1) := by decide +kernel
theorem dX3_putJoined_27 : decode cX3_putJoined 27 = .ok (.iconst 0, 1) := by decide +kernel
theorem dX3_putJoined_28 : decode cX3_putJoined 28 = .ok (.invokevirtual 31, 3) := by decide +kernel
theorem dX3_putJoined_31 : decode cX3_putJoined 31 = .ok (.aload_n 0, 1) := by decide +kernel
theorem dX3_putJoined_32 : decode cX3_putJoined 32 = .ok (.getfield 12, 3) := by decide +kernel
theorem dX3_putJoined_35 : decode cX3_putJoined 35 = .ok (.invokevirtual 41, 3) := by decide +kernel
theorem dX3_putJoined_38 : decode cX3_putJoined 38 = .ok (.aload_n 0, 1) := by decide +kernel
theorem dX3_putJoined_39 : decode cX3_putJoined 39 = .ok (.aload_n 1, 1) := by decide +kernel
theorem dX3_putJoined_40 : decode cX3_putJoined 40 = .ok (.iload 4, 2) := by decide +kernel
theorem dX3_putJoined_42 : decode cX3_putJoined 42 = .ok (.iconst 0, 1) := by decide +kernel
theorem dX3_putJoined_43 : decode cX3_putJoined 43 = .ok (.invokevirtual 44, 3) := by decide +kernel
theorem dX3_putJoined_46 : decode cX3_putJoined 46 = .ok (.return_, 1) := by decide +kernel
theorem dX3_putMet_0 : decode cX3_putMet 0 = .ok (.aload_n 1, 1) := by decide +kernel
theorem dX3_putMet_1 : decode cX3_putMet 1 = .ok (.invokevirtual 24, 3) := by decide +kernel
theorem dX3_putMet_4 : decode cX3_putMet 4 = .ok (.istore 5, 2) := by decide +kernel
theorem dX3_putMet_6 : decode cX3_putMet 6 = .ok (.aload_n 0, 1) := by decide +kernel
theorem dX3_putMet_7 : decode cX3_putMet 7 = .ok (.getfield 12, 3) := by decide +kernel
theorem dX3_putMet_10 : decode cX3_putMet 10 = .ok (.aload_n 1, 1) := by decide +kernel
theorem dX3_putMet_11 : decode cX3_putMet 11 = .ok (.invokevirtual 18, 3) := by decide +kernel
theorem dX3_putMet_14 : decode cX3_putMet 14 = .ok (.iconst 2, 1) := by decide +kernel
theorem dX3_putMet_15 : decode cX3_putMet 15 = .ok (.iload 5, 2) := by decide +kernel
theorem dX3_putMet_17 : decode cX3_putMet 17 = .ok (.imul, 1) := by decide +kernel
theorem dX3_putMet_18 : decode cX3_putMet 18 = .ok (.invokevirtual 27, 3) := by decide +kernel
theorem dX3_putMet_21 : decode cX3_putMet 21 = .ok (.aload_n 0, 1) := by decide +kernel
theorem dX3_putMet_22 : decode cX3_putMet 22 = .ok (.aload_n 1, 1) := by decide +kernel
theorem dX3_putMet_23 : decode cX3_putMet 23 = .ok (.iload_n 2, 1) := by decide +kernel
theorem dX3_putMet_24 : decode cX3_putMet 24 = .ok (.iconst 1, 1) := by decide +kernel
theorem dX3_putMet_25 : decode cX3_putMet 25 = .ok (.iconst 1, 1) := by decide +kernel
theorem dX3_putMet_26 : decode cX3_putMet 26 = .ok (.invokevirtual 31, 3) := by decide +kernel
theorem dX3_putMet_29 : decode cX3_putMet 29 = .ok (.aload_n 0, 1) := by decide +kernel
theorem dX3_putMet_30 : decode cX3_putMet 30 = .ok (.aload_n 1, 1) := by decide +kernel
theorem dX3_putMet_31 : decode cX3_putMet 31 = .ok (.iload_n 3, 1) := by decide +kernel
theorem dX3_putMet_32 : decode cX3_putMet 32 = .ok (.iconst 1, 1) := by decide +kernel
theorem dX3_putMet_33 : decode cX3_putMet 33 = .ok (.iconst 0, 1) := by decide +kernel
theorem dX3_putMet_34 : decode cX3_putMet 34 = .ok (.invokevirtual 31, 3) := by decide +kernel
theorem dX3_putMet_37 : decode cX3_putMet 37 = .ok (.aload_n 0, 1) := by decide +kernel
theorem dX3_putMet_38 : decode cX3_putMet 38 = .ok (.getfield 12, 3) := by decide +kernel
theorem dX3_putMet_41 : decode cX3_putMet 41 = .ok (.invokevirtual 41, 3) := by decide +kernel
theorem dX3_putMet_44 : decode cX3_putMet 44 = .ok (.aload_n 0, 1) := by decide +kernel
theorem dX3_putMet_45 : decode cX3_putMet 45 = .ok (.aload_n 1, 1) := by decide +kernel
theorem dX3_putMet_46 : decode cX3_putMet 46 = .ok (.iload 4, 2) := by decide +kernel
theorem dX3_putMet_48 : decode cX3_putMet 48 = .ok (.iload 5, 2) := by decide +kernel
theorem dX3_putMet_50 : decode cX3_putMet 50 = .ok (.invokevirtual 44, 3) := by decide +kernel
theorem dX3_putMet_53 : decode cX3_putMet 53 = .ok (.return_, 1) := by decide +kernel
theorem dX3_putTimes_0 : decode cX3_putTimes 0 = .ok (.aload_n 0, 1) := by decide +kernel
theorem dX3_putTimes_1 : decode cX3_putTimes 1 = .ok (.getfield 12, 3) := by decide +kernel
theorem dX3_putTimes_4 : decode cX3_putTimes 4 = .ok (.aload_n 1, 1) := by decide +kernel
theorem dX3_putTimes_5 : decode cX3_putTimes 5 = .ok (.invokevirtual 18, 3) := by decide +kernel
theorem dX3_putTimes_8 : decode cX3_putTimes 8 = .ok (.aload_n 1, 1) := by decide +kernel
theorem dX3_putTimes_9 : decode cX3_putTimes 9 = .ok (.invokevirtual 24, 3) := by decide +kernel
theorem dX3_putTimes_12 : decode cX3_putTimes 12 = .ok (.invokevirtual 27, 3) := by decide +kernel
theorem dX3_putTimes_15 : decode cX3_putTimes 15 = .ok (.aload_n 0, 1) := by decide +kernel
theorem dX3_putTimes_16 : decode cX3_putTimes 16 = .ok (.aload_n 1, 1) := by decide +kernel
theorem dX3_putTimes_17 : decode cX3_putTimes 17 = .ok (.iload_n 2, 1) := by decide +kernel
theorem dX3_putTimes_18 : decode cX3_putTimes 18 = .ok (.iload_n 3, 1) := by decide +kernel
theorem dX3_putTimes_19 : decode cX3_putTimes 19 = .ok (.iconst 0, 1) := by decide +kernel
theorem dX3_putTimes_20 : decode cX3_putTimes 20 = .ok (.invokevirtual 31, 3) := by decide +kernel
theorem dX3_putTimes_23 : decode cX3_putTimes 23 = .ok (.aload_n 0, 1) := by decide +kernel
theorem dX3_putTimes_24 : decode cX3_putTimes 24 = .ok (.getfield 12, 3) := by decide +kernel
theorem dX3_putTimes_27 : decode cX3_putTimes 27 = .ok (.invokevirtual 41, 3) := by decide +kernel
theorem dX3_putTimes_30 : decode cX3_putTimes 30 = .ok (.aload_n 0, 1) := by decide +kernel
theorem dX3_putTimes_31 : decode cX3_putTimes 31 = .ok (.aload_n 1, 1) := by decide +kernel
theorem dX3_putTimes_32 : decode cX3_putTimes 32 = .ok (.iload 4, 2) := by decide +kernel
theorem dX3_putTimes_34 : decode cX3_putTimes 34 = .ok (.iconst 0, 1) := by decide +kernel
theorem dX3_putTimes_35 : decode cX3_putTimes 35 = .ok (.invokevirtual 44, 3) := by decide +kernel
theorem dX3_putTimes_38 : decode cX3_putTimes 38 = .ok (.return_, 1) := by decide +kernel
theorem dX3_putBy_0 : decode cX3_putBy 0 = .ok (.aload_n 1, 1) := by decide +kernel
theorem dX3_putBy_1 : decode cX3_putBy 1 = .ok (.invokevirtual 24, 3) := by decide +kernel
theorem dX3_putBy_4 : decode cX3_putBy 4 = .ok (.istore 5, 2) := by decide +kernel
theorem dX3_putBy_6 : decode cX3_putBy 6 = .ok (.aload_n 0, 1) := by decide +kernel
theorem dX3_putBy_7 : decode cX3_putBy 7 = .ok (.getfield 12, 3) := by decide +kernel
theorem dX3_putBy_10 : decode cX3_putBy 10 = .ok (.aload_n 1, 1) := by decide +kernel
theorem dX3_putBy_11 : decode cX3_putBy 11 = .ok (.invokevirtual 18, 3) := by decide +kernel
theorem dX3_putBy_14 : decode cX3_putBy 14 = .ok (.iconst 2, 1) := by decide +kernel
theorem dX3_putBy_15 : decode cX3_putBy 15 = .ok (.iload 5, 2) := by decide +kernel
theorem dX3_putBy_17 : decode cX3_putBy 17 = .ok (.imul, 1) := by decide +kernel
theorem dX3_putBy_18 : decode cX3_putBy 18 = .ok (.invokevirtual 27, 3) := by decide +kernel
theorem dX3_putBy_21 : decode cX3_putBy 21 = .ok (.iconst 0, 1) := by decide +kernel
theorem dX3_putBy_22 : decode cX3_putBy 22 = .ok (.istore 6, 2) := by decide +kernel
theorem dX3_putBy_24 : decode cX3_putBy 24 = .ok (.iload 6, 2) := by decide +kernel
theorem dX3_putBy_26 : decode cX3_putBy 26 = .ok (.iload 5, 2) := by decide +kernel
theorem dX3_putBy_28 : decode cX3_putBy 28 = .ok (.if_icmp .ge 39, 3) := by decide +kernel
theorem dX3_putBy_31 : decode cX3_putBy 31 = .ok (.aload_n 0, 1) := by decide +kernel
theorem dX3_putBy_32 : decode cX3_putBy 32 = .ok (.getfield 12, 3) := by decide +kernel
theorem dX3_putBy_35 : decode cX3_putBy 35 = .ok (.invokevirtual 35, 3) := by decide +kernel
theorem dX3_putBy_38 : decode cX3_putBy 38 = .ok (.aload_n 0, 1) := by decide +kernel
theorem dX3_putBy_39 : decode cX3_putBy 39 = .ok (.getfield 12, 3) := by decide +kernel
theorem dX3_putBy_42 : decode cX3_putBy 42 = .ok (.iload 6, 2) := by decide +kernel
theorem dX3_putBy_44 : decode cX3_putBy 44 = .ok (.iload_n 3, 1) := by decide +kernel
theorem dX3_putBy_45 : decode cX3_putBy 45 = .ok (.invokevirtual 38, 3) := by decide +kernel
theorem dX3_putBy_48 : decode cX3_putBy 48 = .ok (.aload_n 0, 1) := by decide +kernel
theorem dX3_putBy_49 : decode cX3_putBy 49 = .ok (.getfield 12, 3) := by decide +kernel
theorem dX3_putBy_52 : decode cX3_putBy 52 = .ok (.iload 5, 2) := by decide +kernel
theorem dX3_putBy_54 : decode cX3_putBy 54 = .ok (.iload 6, 2) := by decide +kernel
theorem dX3_putBy_56 : decode cX3_putBy 56 = .ok (.iadd, 1) := by decide +kernel
theorem dX3_putBy_57 : decode cX3_putBy 57 = .ok (.iconst 1, 1) := by decide +kernel
theorem dX3_putBy_58 : decode cX3_putBy 58 = .ok (.invokevirtual 38, 3) := by decide +kernel
theorem dX3_putBy_61 : decode cX3_putBy 61 = .ok (.iinc 6 1, 3) := by decide +kernel
theorem dX3_putBy_64 : decode cX3_putBy 64 = .ok (.goto (-40), 3) := by decide +kernel
theorem dX3_putBy_67 : decode cX3_putBy 67 = .ok (.aload_n 0, 1) := by decide +kernel
theorem dX3_putBy_68 : decode cX3_putBy 68 = .ok (.aload_n 1, 1) := by decide +kernel
theorem dX3_putBy_69 : decode cX3_putBy 69 = .ok (.iload_n 2, 1) := by decide +kernel
theorem dX3_putBy_70 : decode cX3_putBy 70 = .ok (.iconst 1, 1) := by decide +kernel
theorem dX3_putBy_71 : decode cX3_putBy 71 = .ok (.iconst 0, 1) := by decide +kernel
theorem dX3_putBy_72 : decode cX3_putBy 72 = .ok (.invokevirtual 31, 3) := by decide +kernel
theorem dX3_putBy_75 : decode cX3_putBy 75 = .ok (.aload_n 0, 1) := by decide +kernel
theorem dX3_putBy_76 : decode cX3_putBy 76 = .ok (.getfield 12, 3) := by decide +kernel
theorem dX3_putBy_79 : decode cX3_putBy 79 = .ok (.invokevirtual 41, 3) := by decide +kernel
theorem dX3_putBy_82 : decode cX3_putBy 82 = .ok (.aload_n 0, 1) := by decide +kernel
theorem dX3_putBy_83 : decode cX3_putBy 83 = .ok (.aload_n 1, 1) := by decide +kernel
theorem dX3_putBy_84 : decode cX3_putBy 84 = .ok (.iload 4, 2) := by decide +kernel
theorem dX3_putBy_86 : decode cX3_putBy 86 = .ok (.iload 5, 2) := by decide +kernel
theorem dX3_putBy_88 : decode cX3_putBy 88 = .ok (.invokevirtual 44, 3) := by decide +kernel
theorem dX3_putBy_91 : decode cX3_putBy 91 = .ok (.return_, 1) := by decide +kernel
theorem dX3_putUpright_0 : decode cX3_putUpright 0 = .ok (.aload_n 1, 1) := by decide +kernel
theorem dX3_putUpright_1 : decode cX3_putUpright 1 = .ok (.invokevirtual 24, 3) := by decide +kernel
theorem dX3_putUpright_4 : decode cX3_putUpright 4 = .ok (.istore 4, 2) := by decide +kernel
theorem dX3_putUpright_6 : decode cX3_putUpright 6 = .ok (.aload_n 0, 1) := by decide +kernel
theorem dX3_putUpright_7 : decode cX3_putUpright 7 = .ok (.getfield 12, 3) := by decide +kernel
theorem dX3_putUpright_10 : decode cX3_putUpright 10 = .ok (.aload_n 1, 1) := by decide +kernel
theorem dX3_putUpright_11 : decode cX3_putUpright 11 = .ok (.invokevirtual 18, 3) := by decide +kernel
theorem dX3_putUpright_14 : decode cX3_putUpright 14 = .ok (.iconst 2, 1) := by decide +kernel
theorem dX3_putUpright_15 : decode cX3_putUpright 15 = .ok (.iload 4, 2) := by decide +kernel
theorem dX3_putUpright_17 : decode cX3_putUpright 17 = .ok (.imul, 1) := by decide +kernel
theorem dX3_putUpright_18 : decode cX3_putUpright 18 = .ok (.invokevirtual 27, 3) := by decide +kernel
theorem dX3_putUpright_21 : decode cX3_putUpright 21 = .ok (.iconst 0, 1) := by decide +kernel
theorem dX3_putUpright_22 : decode cX3_putUpright 22 = .ok (.istore 5, 2) := by decide +kernel
theorem dX3_putUpright_24 : decode cX3_putUpright 24 = .ok (.iload 5, 2) := by decide +kernel
theorem dX3_putUpright_26 : decode cX3_putUpright 26 = .ok (.iload 4, 2) := by decide +kernel
theorem dX3_putUpright_28 : decode cX3_putUpright 28 = .ok (.if_icmp .ge 63, 3) := by decide +kernel
theorem dX3_putUpright_31 : decode cX3_putUpright 31 = .ok (.aload_n 0, 1) := by decide +kernel
theorem dX3_putUpright_32 : decode cX3_putUpright 32 = .ok (.getfield 12, 3) := by decide +kernel
theorem dX3_putUpright_35 : decode cX3_putUpright 35 = .ok (.invokevirtual 35, 3) := by decide +kernel
theorem dX3_putUpright_38 : decode cX3_putUpright 38 = .ok (.iconst 0, 1) := by decide +kernel
theorem dX3_putUpright_39 : decode cX3_putUpright 39 = .ok (.istore 6, 2) := by decide +kernel
theorem dX3_putUpright_41 : decode cX3_putUpright 41 = .ok (.iload 6, 2) := by decide +kernel
theorem dX3_putUpright_43 : decode cX3_putUpright 43 = .ok (.iload 4, 2) := by decide +kernel
theorem dX3_putUpright_45 : decode cX3_putUpright 45 = .ok (.if_icmp .ge 27, 3) := by decide +kernel
theorem dX3_putUpright_48 : decode cX3_putUpright 48 = .ok (.aload_n 0, 1) := by decide +kernel
theorem dX3_putUpright_49 : decode cX3_putUpright 49 = .ok (.getfield 12, 3) := by decide +kernel
theorem dX3_putUpright_52 : decode cX3_putUpright 52 = .ok (.iload 6, 2) := by decide +kernel
theorem dX3_putUpright_54 : decode cX3_putUpright 54 = .ok (.aload_n 1, 1) := by decide +kernel
theorem dX3_putUpright_55 : decode cX3_putUpright 55 = .ok (.iload_n 2, 1) := by decide +kernel
theorem dX3_putUpright_56 : decode cX3_putUpright 56 = .ok (.iload 6, 2) := by decide +kernel
theorem dX3_putUpright_58 : decode cX3_putUpright 58 = .ok (.iload 5, 2) := by decide +kernel
theorem dX3_putUpright_60 : decode cX3_putUpright 60 = .ok (.invokevirtual 48, 3) := by decide +kernel
theorem dX3_putUpright_63 : decode cX3_putUpright 63 = .ok (.invokevirtual 38, 3) := by decide +kernel
theorem dX3_putUpright_66 : decode cX3_putUpright 66 = .ok (.iinc 6 1, 3) := by decide +kernel
theorem dX3_putUpright_69 : decode cX3_putUpright 69 = .ok (.goto (-28), 3) := by decide +kernel
theorem dX3_putUpright_72 : decode cX3_putUpright 72 = .ok (.aload_n 0, 1) := by decide +kernel
theorem dX3_putUpright_73 : decode cX3_putUpright 73 = .ok (.getfield 12, 3) := by decide +kernel
theorem dX3_putUpright_76 : decode cX3_putUpright 76 = .ok (.iload 4, 2) := by decide +kernel
theorem dX3_putUpright_78 : decode cX3_putUpright 78 = .ok (.iload 5, 2) := by decide +kernel
theorem dX3_putUpright_80 : decode cX3_putUpright 80 = .ok (.iadd, 1) := by decide +kernel
theorem dX3_putUpright_81 : decode cX3_putUpright 81 = .ok (.iconst 1, 1) := by decide +kernel
theorem dX3_putUpright_82 : decode cX3_putUpright 82 = .ok (.invokevirtual 38, 3) := by decide +kernel
theorem dX3_putUpright_85 : decode cX3_putUpright 85 = .ok (.iinc 5 1, 3) := by decide +kernel
theorem dX3_putUpright_88 : decode cX3_putUpright 88 = .ok (.goto (-64), 3) := by decide +kernel
theorem dX3_putUpright_91 : decode cX3_putUpright 91 = .ok (.aload_n 0, 1) := by decide +kernel
theorem dX3_putUpright_92 : decode cX3_putUpright 92 = .ok (.getfield 12, 3) := by decide +kernel
theorem dX3_putUpright_95 : decode cX3_putUpright 95 = .ok (.invokevirtual 41, 3) := by decide +kernel
theorem dX3_putUpright_98 : decode cX3_putUpright 98 = .ok (.aload_n 0, 1) := by decide +kernel
theorem dX3_putUpright_99 : decode cX3_putUpright 99 = .ok (.aload_n 1, 1) := by decide +kernel
theorem dX3_putUpright_100 : decode cX3_putUpright 100 = .ok (.iload_n 3, 1) := by decide +kernel
theorem dX3_putUpright_101 : decode cX3_putUpright 101 = .ok (.iload 4, 2) := by decide +kernel
theorem dX3_putUpright_103 : decode cX3_putUpright 103 = .ok (.invokevirtual 44, 3) := by decide +kernel
theorem dX3_putUpright_106 : decode cX3_putUpright 106 = .ok (.return_, 1) := by decide +kernel
theorem dX3_putKernel_0 : decode cX3_putKernel 0 = .ok (.aload_n 1, 1) := by decide +kernel
theorem dX3_putKernel_1 : decode cX3_putKernel 1 = .ok (.invokevirtual 52, 3) := by decide +kernel
theorem dX3_putKernel_4 : decode cX3_putKernel 4 = .ok (.istore_n 3, 1) := by decide +kernel
theorem dX3_putKernel_5 : decode cX3_putKernel 5 = .ok (.aload_n 0, 1) := by decide +kernel
theorem dX3_putKernel_6 : decode cX3_putKernel 6 = .ok (.getfield 12, 3) := by decide +kernel
theorem dX3_putKernel_9 : decode cX3_putKernel 9 = .ok (.aload_n 1, 1) := by decide +kernel
theorem dX3_putKernel_10 : decode cX3_putKernel 10 = .ok (.invokevirtual 18, 3) := by decide +kernel
theorem dX3_putKernel_13 : decode cX3_putKernel 13 = .ok (.iload_n 3, 1) := by decide +kernel
theorem dX3_putKernel_14 : decode cX3_putKernel 14 = .ok (.aload_n 1, 1) := by decide +kernel
theorem dX3_putKernel_15 : decode cX3_putKernel 15 = .ok (.invokevirtual 24, 3) := by decide +kernel
theorem dX3_putKernel_18 : decode cX3_putKernel 18 = .ok (.iadd, 1) := by decide +kernel
theorem dX3_putKernel_19 : decode cX3_putKernel 19 = .ok (.invokevirtual 27, 3) := by decide +kernel
theorem dX3_putKernel_22 : decode cX3_putKernel 22 = .ok (.aload_n 0, 1) := by decide +kernel
theorem dX3_putKernel_23 : decode cX3_putKernel 23 = .ok (.aload_n 1, 1) := by decide +kernel
theorem dX3_putKernel_24 : decode cX3_putKernel 24 = .ok (.iload_n 3, 1) := by decide +kernel
theorem dX3_putKernel_25 : decode cX3_putKernel 25 = .ok (.invokevirtual 55, 3) := by decide +kernel
theorem dX3_putKernel_28 : decode cX3_putKernel 28 = .ok (.aload_n 0, 1) := by decide +kernel
theorem dX3_putKernel_29 : decode cX3_putKernel 29 = .ok (.getfield 12, 3) := by decide +kernel
theorem dX3_putKernel_32 : decode cX3_putKernel 32 = .ok (.invokevirtual 41, 3) := by decide +kernel
theorem dX3_putKernel_35 : decode cX3_putKernel 35 = .ok (.aload_n 0, 1) := by decide +kernel
theorem dX3_putKernel_36 : decode cX3_putKernel 36 = .ok (.aload_n 1, 1) := by decide +kernel
theorem dX3_putKernel_37 : decode cX3_putKernel 37 = .ok (.iload_n 2, 1) := by decide +kernel
theorem dX3_putKernel_38 : decode cX3_putKernel 38 = .ok (.iload_n 3, 1) := by decide +kernel
theorem dX3_putKernel_39 : decode cX3_putKernel 39 = .ok (.invokevirtual 44, 3) := by decide +kernel
theorem dX3_putKernel_42 : decode cX3_putKernel 42 = .ok (.return_, 1) := by decide +kernel
theorem dX3_fewestRows_0 : decode cX3_fewestRows 0 = .ok (.aload_n 1, 1) := by decide +kernel
theorem dX3_fewestRows_1 : decode cX3_fewestRows 1 = .ok (.iload_n 2, 1) := by decide +kernel
theorem dX3_fewestRows_2 : decode cX3_fewestRows 2 = .ok (.invokevirtual 59, 3) := by decide +kernel
theorem dX3_fewestRows_5 : decode cX3_fewestRows 5 = .ok (.istore_n 3, 1) := by decide +kernel
theorem dX3_fewestRows_6 : decode cX3_fewestRows 6 = .ok (.iconst 0, 1) := by decide +kernel
theorem dX3_fewestRows_7 : decode cX3_fewestRows 7 = .ok (.istore 4, 2) := by decide +kernel
theorem dX3_fewestRows_9 : decode cX3_fewestRows 9 = .ok (.iconst 2, 1) := by decide +kernel
theorem dX3_fewestRows_10 : decode cX3_fewestRows 10 = .ok (.istore 5, 2) := by decide +kernel
theorem dX3_fewestRows_12 : decode cX3_fewestRows 12 = .ok (.iload 5, 2) := by decide +kernel
theorem dX3_fewestRows_14 : decode cX3_fewestRows 14 = .ok (.aload_n 1, 1) := by decide +kernel
theorem dX3_fewestRows_15 : decode cX3_fewestRows 15 = .ok (.invokevirtual 18, 3) := by decide +kernel
theorem dX3_fewestRows_18 : decode cX3_fewestRows 18 = .ok (.if_icmp .gt 49, 3) := by decide +kernel
theorem dX3_fewestRows_21 : decode cX3_fewestRows 21 = .ok (.aload_n 1, 1) := by decide +kernel
theorem dX3_fewestRows_22 : decode cX3_fewestRows 22 = .ok (.invokevirtual 18, 3) := by decide +kernel
theorem dX3_fewestRows_25 : decode cX3_fewestRows 25 = .ok (.iload 5, 2) := by decide +kernel
theorem dX3_fewestRows_27 : decode cX3_fewestRows 27 = .ok (.irem, 1) := by decide +kernel
theorem dX3_fewestRows_28 : decode cX3_fewestRows 28 = .ok (.ifCond .ne 33, 3) := by decide +kernel
theorem dX3_fewestRows_31 : decode cX3_fewestRows 31 = .ok (.iload_n 3, 1) := by decide +kernel
theorem dX3_fewestRows_32 : decode cX3_fewestRows 32 = .ok (.iconst 1, 1) := by decide +kernel
theorem dX3_fewestRows_33 : decode cX3_fewestRows 33 = .ok (.aload_n 0, 1) := by decide +kernel
theorem dX3_fewestRows_34 : decode cX3_fewestRows 34 = .ok (.aload_n 1, 1) := by decide +kernel
theorem dX3_fewestRows_35 : decode cX3_fewestRows 35 = .ok (.iload_n 2, 1) := by decide +kernel
theorem dX3_fewestRows_36 : decode cX3_fewestRows 36 = .ok (.iload 5, 2) := by decide +kernel
theorem dX3_fewestRows_38 : decode cX3_fewestRows 38 = .ok (.invokevirtual 63, 3) := by decide +kernel
theorem dX3_fewestRows_41 : decode cX3_fewestRows 41 = .ok (.invokestatic 67, 3) := by decide +kernel
theorem dX3_fewestRows_44 : decode cX3_fewestRows 44 = .ok (.idiv, 1) := by decide +kernel
theorem dX3_fewestRows_45 : decode cX3_fewestRows 45 = .ok (.istore 6, 2) := by decide +kernel
theorem dX3_fewestRows_47 : decode cX3_fewestRows 47 = .ok (.iload 4, 2) := by decide +kernel
theorem dX3_fewestRows_49 : decode cX3_fewestRows 49 = .ok (.iload 6, 2) := by decide +kernel
theorem dX3_fewestRows_51 : decode cX3_fewestRows 51 = .ok (.iload 5, 2) := by decide +kernel
theorem dX3_fewestRows_53 : decode cX3_fewestRows 53 = .ok (.invokestatic 73, 3) := by decide +kernel
theorem dX3_fewestRows_56 : decode cX3_fewestRows 56 = .ok (.invokestatic 67, 3) := by decide +kernel
theorem dX3_fewestRows_59 : decode cX3_fewestRows 59 = .ok (.istore 4, 2) := by decide +kernel
theorem dX3_fewestRows_61 : decode cX3_fewestRows 61 = .ok (.iinc 5 1, 3) := by decide +kernel
theorem dX3_fewestRows_64 : decode cX3_fewestRows 64 = .ok (.goto (-52), 3) := by decide +kernel
theorem dX3_fewestRows_67 : decode cX3_fewestRows 67 = .ok (.iload 4, 2) := by decide +kernel
theorem dX3_fewestRows_69 : decode cX3_fewestRows 69 = .ok (.ireturn, 1) := by decide +kernel
theorem dX3_countSolutions_0 : decode cX3_countSolutions 0 = .ok (.aload_n 0, 1) := by decide +kernel
theorem dX3_countSolutions_1 : decode cX3_countSolutions 1 = .ok (.aload_n 1, 1) := by decide +kernel
theorem dX3_countSolutions_2 : decode cX3_countSolutions 2 = .ok (.invokevirtual 76, 3) := by decide +kernel
theorem dX3_countSolutions_5 : decode cX3_countSolutions 5 = .ok (.aload_n 0, 1) := by decide +kernel
theorem dX3_countSolutions_6 : decode cX3_countSolutions 6 = .ok (.aload_n 1, 1) := by decide +kernel
theorem dX3_countSolutions_7 : decode cX3_countSolutions 7 = .ok (.invokevirtual 80, 3) := by decide +kernel
theorem dX3_countSolutions_10 : decode cX3_countSolutions 10 = .ok (.ifCond .eq 19, 3) := by decide +kernel
theorem dX3_countSolutions_13 : decode cX3_countSolutions 13 = .ok (.aload_n 0, 1) := by decide +kernel
theorem dX3_countSolutions_14 : decode cX3_countSolutions 14 = .ok (.getfield 12, 3) := by decide +kernel
theorem dX3_countSolutions_17 : decode cX3_countSolutions 17 = .ok (.aload_n 1, 1) := by decide +kernel
theorem dX3_countSolutions_18 : decode cX3_countSolutions 18 = .ok (.invokevirtual 52, 3) := by decide +kernel
theorem dX3_countSolutions_21 : decode cX3_countSolutions 21 = .ok (.iconst 1, 1) := by decide +kernel
theorem dX3_countSolutions_22 : decode cX3_countSolutions 22 = .ok (.iadd, 1) := by decide +kernel
theorem dX3_countSolutions_23 : decode cX3_countSolutions 23 = .ok (.invokevirtual 84, 3) := by decide +kernel
theorem dX3_countSolutions_26 : decode cX3_countSolutions 26 = .ok (.goto 4, 3) := by decide +kernel
theorem dX3_countSolutions_29 : decode cX3_countSolutions 29 = .ok (.iconst 0, 1) := by decide +kernel
theorem dX3_countSolutions_30 : decode cX3_countSolutions 30 = .ok (.ireturn, 1) := by decide +kernel
theorem dX3_findSolution_0 : decode cX3_findSolution 0 = .ok (.aload_n 0, 1) := by decide +kernel
theorem dX3_findSolution_1 : decode cX3_findSolution 1 = .ok (.aload_n 1, 1) := by decide +kernel
theorem dX3_findSolution_2 : decode cX3_findSolution 2 = .ok (.invokevirtual 76, 3) := by decide +kernel
theorem dX3_findSolution_5 : decode cX3_findSolution 5 = .ok (.aload_n 1, 1) := by decide +kernel
theorem dX3_findSolution_6 : decode cX3_findSolution 6 = .ok (.invokevirtual 52, 3) := by decide +kernel
theorem dX3_findSolution_9 : decode cX3_findSolution 9 = .ok (.istore_n 3, 1) := by decide +kernel
theorem dX3_findSolution_10 : decode cX3_findSolution 10 = .ok (.iconst 0, 1) := by decide +kernel
theorem dX3_findSolution_11 : decode cX3_findSolution 11 = .ok (.istore 4, 2) := by decide +kernel
theorem dX3_findSolution_13 : decode cX3_findSolution 13 = .ok (.iload 4, 2) := by decide +kernel
theorem dX3_findSolution_15 : decode cX3_findSolution 15 = .ok (.aload_n 2, 1) := by decide +kernel
theorem dX3_findSolution_16 : decode cX3_findSolution 16 = .ok (.arraylength, 1) := by decide +kernel
theorem dX3_findSolution_17 : decode cX3_findSolution 17 = .ok (.if_icmp .ge 27, 3) := by decide +kernel
theorem dX3_findSolution_20 : decode cX3_findSolution 20 = .ok (.aload_n 2, 1) := by decide +kernel
theorem dX3_findSolution_21 : decode cX3_findSolution 21 = .ok (.iload 4, 2) := by decide +kernel
theorem dX3_findSolution_23 : decode cX3_findSolution 23 = .ok (.aload_n 0, 1) := by decide +kernel
theorem dX3_findSolution_24 : decode cX3_findSolution 24 = .ok (.getfield 12, 3) := by decide +kernel
theorem dX3_findSolution_27 : decode cX3_findSolution 27 = .ok (.iload_n 3, 1) := by decide +kernel
theorem dX3_findSolution_28 : decode cX3_findSolution 28 = .ok (.iload_n 3, 1) := by decide +kernel
theorem dX3_findSolution_29 : decode cX3_findSolution 29 = .ok (.iconst 1, 1) := by decide +kernel
theorem dX3_findSolution_30 : decode cX3_findSolution 30 = .ok (.iadd, 1) := by decide +kernel
theorem dX3_findSolution_31 : decode cX3_findSolution 31 = .ok (.iload 4, 2) := by decide +kernel
theorem dX3_findSolution_33 : decode cX3_findSolution 33 = .ok (.iadd, 1) := by decide +kernel
theorem dX3_findSolution_34 : decode cX3_findSolution 34 = .ok (.invokevirtual 87, 3) := by decide +kernel
theorem dX3_findSolution_37 : decode cX3_findSolution 37 = .ok (.iastore, 1) := by decide +kernel
theorem dX3_findSolution_38 : decode cX3_findSolution 38 = .ok (.iinc 4 1, 3) := by decide +kernel
theorem dX3_findSolution_41 : decode cX3_findSolution 41 = .ok (.goto (-28), 3) := by decide +kernel
theorem dX3_findSolution_44 : decode cX3_findSolution 44 = .ok (.aload_n 0, 1) := by decide +kernel
theorem dX3_findSolution_45 : decode cX3_findSolution 45 = .ok (.aload_n 1, 1) := by decide +kernel
theorem dX3_findSolution_46 : decode cX3_findSolution 46 = .ok (.invokevirtual 80, 3) := by decide +kernel
theorem dX3_findSolution_49 : decode cX3_findSolution 49 = .ok (.ireturn, 1) := by decide +kernel
theorem dX3_findWitness_0 : decode cX3_findWitness 0 = .ok (.aload_n 1, 1) := by decide +kernel
theorem dX3_findWitness_1 : decode cX3_findWitness 1 = .ok (.invokevirtual 24, 3) := by decide +kernel
theorem dX3_findWitness_4 : decode cX3_findWitness 4 = .ok (.istore_n 3, 1) := by decide +kernel
theorem dX3_findWitness_5 : decode cX3_findWitness 5 = .ok (.aload_n 1, 1) := by decide +kernel
theorem dX3_findWitness_6 : decode cX3_findWitness 6 = .ok (.invokevirtual 52, 3) := by decide +kernel
theorem dX3_findWitness_9 : decode cX3_findWitness 9 = .ok (.istore 4, 2) := by decide +kernel
theorem dX3_findWitness_11 : decode cX3_findWitness 11 = .ok (.aload_n 0, 1) := by decide +kernel
theorem dX3_findWitness_12 : decode cX3_findWitness 12 = .ok (.getfield 12, 3) := by decide +kernel
theorem dX3_findWitness_15 : decode cX3_findWitness 15 = .ok (.aload_n 1, 1) := by decide +kernel
theorem dX3_findWitness_16 : decode cX3_findWitness 16 = .ok (.invokevirtual 18, 3) := by decide +kernel
theorem dX3_findWitness_19 : decode cX3_findWitness 19 = .ok (.iload_n 3, 1) := by decide +kernel
theorem dX3_findWitness_20 : decode cX3_findWitness 20 = .ok (.iload 4, 2) := by decide +kernel
theorem dX3_findWitness_22 : decode cX3_findWitness 22 = .ok (.iadd, 1) := by decide +kernel
theorem dX3_findWitness_23 : decode cX3_findWitness 23 = .ok (.invokevirtual 27, 3) := by decide +kernel
theorem dX3_findWitness_26 : decode cX3_findWitness 26 = .ok (.iconst 0, 1) := by decide +kernel
theorem dX3_findWitness_27 : decode cX3_findWitness 27 = .ok (.istore 5, 2) := by decide +kernel
theorem dX3_findWitness_29 : decode cX3_findWitness 29 = .ok (.iload 5, 2) := by decide +kernel
theorem dX3_findWitness_31 : decode cX3_findWitness 31 = .ok (.iload 4, 2) := by decide +kernel
theorem dX3_findWitness_33 : decode cX3_findWitness 33 = .ok (.if_icmp .ge 60, 3) := by decide +kernel
theorem dX3_findWitness_36 : decode cX3_findWitness 36 = .ok (.aload_n 0, 1) := by decide +kernel
theorem dX3_findWitness_37 : decode cX3_findWitness 37 = .ok (.getfield 12, 3) := by decide +kernel
theorem dX3_findWitness_40 : decode cX3_findWitness 40 = .ok (.invokevirtual 35, 3) := by decide +kernel
theorem dX3_findWitness_43 : decode cX3_findWitness 43 = .ok (.iconst 0, 1) := by decide +kernel
theorem dX3_findWitness_44 : decode cX3_findWitness 44 = .ok (.istore 6, 2) := by decide +kernel
theorem dX3_findWitness_46 : decode cX3_findWitness 46 = .ok (.iload 6, 2) := by decide +kernel
theorem dX3_findWitness_48 : decode cX3_findWitness 48 = .ok (.iload_n 3, 1) := by decide +kernel
theorem dX3_findWitness_49 : decode cX3_findWitness 49 = .ok (.if_icmp .ge 26, 3) := by decide +kernel
theorem dX3_findWitness_52 : decode cX3_findWitness 52 = .ok (.aload_n 0, 1) := by decide +kernel
theorem dX3_findWitness_53 : decode cX3_findWitness 53 = .ok (.getfield 12, 3) := by decide +kernel
theorem dX3_findWitness_56 : decode cX3_findWitness 56 = .ok (.iload 6, 2) := by decide +kernel
theorem dX3_findWitness_58 : decode cX3_findWitness 58 = .ok (.aload_n 1, 1) := by decide +kernel
theorem dX3_findWitness_59 : decode cX3_findWitness 59 = .ok (.iload 5, 2) := by decide +kernel
theorem dX3_findWitness_61 : decode cX3_findWitness 61 = .ok (.iload 6, 2) := by decide +kernel
theorem dX3_findWitness_63 : decode cX3_findWitness 63 = .ok (.invokevirtual 90, 3) := by decide +kernel
theorem dX3_findWitness_66 : decode cX3_findWitness 66 = .ok (.invokevirtual 38, 3) := by decide +kernel
theorem dX3_findWitness_69 : decode cX3_findWitness 69 = .ok (.iinc 6 1, 3) := by decide +kernel
theorem dX3_findWitness_72 : decode cX3_findWitness 72 = .ok (.goto (-26), 3) := by decide +kernel
theorem dX3_findWitness_75 : decode cX3_findWitness 75 = .ok (.aload_n 0, 1) := by decide +kernel
theorem dX3_findWitness_76 : decode cX3_findWitness 76 = .ok (.getfield 12, 3) := by decide +kernel
theorem dX3_findWitness_79 : decode cX3_findWitness 79 = .ok (.iload_n 3, 1) := by decide +kernel
theorem dX3_findWitness_80 : decode cX3_findWitness 80 = .ok (.iload 5, 2) := by decide +kernel
theorem dX3_findWitness_82 : decode cX3_findWitness 82 = .ok (.iadd, 1) := by decide +kernel
theorem dX3_findWitness_83 : decode cX3_findWitness 83 = .ok (.iconst 1, 1) := by decide +kernel
theorem dX3_findWitness_84 : decode cX3_findWitness 84 = .ok (.invokevirtual 38, 3) := by decide +kernel
theorem dX3_findWitness_87 : decode cX3_findWitness 87 = .ok (.iinc 5 1, 3) := by decide +kernel
theorem dX3_findWitness_90 : decode cX3_findWitness 90 = .ok (.goto (-61), 3) := by decide +kernel
theorem dX3_findWitness_93 : decode cX3_findWitness 93 = .ok (.aload_n 0, 1) := by decide +kernel
theorem dX3_findWitness_94 : decode cX3_findWitness 94 = .ok (.getfield 12, 3) := by decide +kernel
theorem dX3_findWitness_97 : decode cX3_findWitness 97 = .ok (.invokevirtual 41, 3) := by decide +kernel
theorem dX3_findWitness_100 : decode cX3_findWitness 100 = .ok (.iload 4, 2) := by decide +kernel
theorem dX3_findWitness_102 : decode cX3_findWitness 102 = .ok (.iconst 1, 1) := by decide +kernel
theorem dX3_findWitness_103 : decode cX3_findWitness 103 = .ok (.isub, 1) := by decide +kernel
theorem dX3_findWitness_104 : decode cX3_findWitness 104 = .ok (.istore 5, 2) := by decide +kernel
theorem dX3_findWitness_106 : decode cX3_findWitness 106 = .ok (.iload 5, 2) := by decide +kernel
theorem dX3_findWitness_108 : decode cX3_findWitness 108 = .ok (.ifCond .lt 55, 3) := by decide +kernel
theorem dX3_findWitness_111 : decode cX3_findWitness 111 = .ok (.iconst 0, 1) := by decide +kernel
theorem dX3_findWitness_112 : decode cX3_findWitness 112 = .ok (.istore 6, 2) := by decide +kernel
theorem dX3_findWitness_114 : decode cX3_findWitness 114 = .ok (.iload 6, 2) := by decide +kernel
theorem dX3_findWitness_116 : decode cX3_findWitness 116 = .ok (.aload_n 2, 1) := by decide +kernel
theorem dX3_findWitness_117 : decode cX3_findWitness 117 = .ok (.arraylength, 1) := by decide +kernel
theorem dX3_findWitness_118 : decode cX3_findWitness 118 = .ok (.if_icmp .ge 28, 3) := by decide +kernel
theorem dX3_findWitness_121 : decode cX3_findWitness 121 = .ok (.aload_n 2, 1) := by decide +kernel
theorem dX3_findWitness_122 : decode cX3_findWitness 122 = .ok (.iload 6, 2) := by decide +kernel
theorem dX3_findWitness_124 : decode cX3_findWitness 124 = .ok (.aload_n 0, 1) := by decide +kernel
theorem dX3_findWitness_125 : decode cX3_findWitness 125 = .ok (.getfield 12, 3) := by decide +kernel
theorem dX3_findWitness_128 : decode cX3_findWitness 128 = .ok (.iload_n 3, 1) := by decide +kernel
theorem dX3_findWitness_129 : decode cX3_findWitness 129 = .ok (.iload 5, 2) := by decide +kernel
theorem dX3_findWitness_131 : decode cX3_findWitness 131 = .ok (.iadd, 1) := by decide +kernel
theorem dX3_findWitness_132 : decode cX3_findWitness 132 = .ok (.iload_n 3, 1) := by decide +kernel
theorem dX3_findWitness_133 : decode cX3_findWitness 133 = .ok (.iload 6, 2) := by decide +kernel
theorem dX3_findWitness_135 : decode cX3_findWitness 135 = .ok (.iadd, 1) := by decide +kernel
theorem dX3_findWitness_136 : decode cX3_findWitness 136 = .ok (.invokevirtual 87, 3) := by decide +kernel
theorem dX3_findWitness_139 : decode cX3_findWitness 139 = .ok (.iastore, 1) := by decide +kernel
theorem dX3_findWitness_140 : decode cX3_findWitness 140 = .ok (.iinc 6 1, 3) := by decide +kernel
theorem dX3_findWitness_143 : decode cX3_findWitness 143 = .ok (.goto (-29), 3) := by decide +kernel
theorem dX3_findWitness_146 : decode cX3_findWitness 146 = .ok (.aload_n 0, 1) := by decide +kernel
theorem dX3_findWitness_147 : decode cX3_findWitness 147 = .ok (.aload_n 1, 1) := by decide +kernel
theorem dX3_findWitness_148 : decode cX3_findWitness 148 = .ok (.aload_n 2, 1) := by decide +kernel
theorem dX3_findWitness_149 : decode cX3_findWitness 149 = .ok (.invokevirtual 93, 3) := by decide +kernel
theorem dX3_findWitness_152 : decode cX3_findWitness 152 = .ok (.ifCond .eq 5, 3) := by decide +kernel
theorem dX3_findWitness_155 : decode cX3_findWitness 155 = .ok (.iconst 1, 1) := by decide +kernel
theorem dX3_findWitness_156 : decode cX3_findWitness 156 = .ok (.ireturn, 1) := by decide +kernel
theorem dX3_findWitness_157 : decode cX3_findWitness 157 = .ok (.iinc 5 (-1), 3) := by decide +kernel
theorem dX3_findWitness_160 : decode cX3_findWitness 160 = .ok (.goto (-54), 3) := by decide +kernel
theorem dX3_findWitness_163 : decode cX3_findWitness 163 = .ok (.iconst 0, 1) := by decide +kernel
theorem dX3_findWitness_164 : decode cX3_findWitness 164 = .ok (.ireturn, 1) := by decide +kernel
theorem dX3_showsNone_0 : decode cX3_showsNone 0 = .ok (.iconst 0, 1) := by decide +kernel
theorem dX3_showsNone_1 : decode cX3_showsNone 1 = .ok (.istore_n 3, 1) := by decide +kernel
theorem dX3_showsNone_2 : decode cX3_showsNone 2 = .ok (.iconst 0, 1) := by decide +kernel
theorem dX3_showsNone_3 : decode cX3_showsNone 3 = .ok (.istore 4, 2) := by decide +kernel
theorem dX3_showsNone_5 : decode cX3_showsNone 5 = .ok (.iload 4, 2) := by decide +kernel
theorem dX3_showsNone_7 : decode cX3_showsNone 7 = .ok (.aload_n 1, 1) := by decide +kernel
theorem dX3_showsNone_8 : decode cX3_showsNone 8 = .ok (.invokevirtual 52, 3) := by decide +kernel
theorem dX3_showsNone_11 : decode cX3_showsNone 11 = .ok (.if_icmp .ge 31, 3) := by decide +kernel
theorem dX3_showsNone_14 : decode cX3_showsNone 14 = .ok (.iload 4, 2) := by decide +kernel
theorem dX3_showsNone_16 : decode cX3_showsNone 16 = .ok (.aload_n 2, 1) := by decide +kernel
theorem dX3_showsNone_17 : decode cX3_showsNone 17 = .ok (.arraylength, 1) := by decide +kernel
theorem dX3_showsNone_18 : decode cX3_showsNone 18 = .ok (.if_icmp .ge 24, 3) := by decide +kernel
theorem dX3_showsNone_21 : decode cX3_showsNone 21 = .ok (.iload_n 3, 1) := by decide +kernel
theorem dX3_showsNone_22 : decode cX3_showsNone 22 = .ok (.aload_n 2, 1) := by decide +kernel
theorem dX3_showsNone_23 : decode cX3_showsNone 23 = .ok (.iload 4, 2) := by decide +kernel
theorem dX3_showsNone_25 : decode cX3_showsNone 25 = .ok (.iaload, 1) := by decide +kernel
theorem dX3_showsNone_26 : decode cX3_showsNone 26 = .ok (.aload_n 1, 1) := by decide +kernel
theorem dX3_showsNone_27 : decode cX3_showsNone 27 = .ok (.iload 4, 2) := by decide +kernel
theorem dX3_showsNone_29 : decode cX3_showsNone 29 = .ok (.iconst 3, 1) := by decide +kernel
theorem dX3_showsNone_30 : decode cX3_showsNone 30 = .ok (.invokevirtual 90, 3) := by decide +kernel
theorem dX3_showsNone_33 : decode cX3_showsNone 33 = .ok (.imul, 1) := by decide +kernel
theorem dX3_showsNone_34 : decode cX3_showsNone 34 = .ok (.iadd, 1) := by decide +kernel
theorem dX3_showsNone_35 : decode cX3_showsNone 35 = .ok (.istore_n 3, 1) := by decide +kernel
theorem dX3_showsNone_36 : decode cX3_showsNone 36 = .ok (.iinc 4 1, 3) := by decide +kernel
theorem dX3_showsNone_39 : decode cX3_showsNone 39 = .ok (.goto (-34), 3) := by decide +kernel
theorem dX3_showsNone_42 : decode cX3_showsNone 42 = .ok (.aload_n 1, 1) := by decide +kernel
theorem dX3_showsNone_43 : decode cX3_showsNone 43 = .ok (.iload_n 3, 1) := by decide +kernel
theorem dX3_showsNone_44 : decode cX3_showsNone 44 = .ok (.invokevirtual 97, 3) := by decide +kernel
theorem dX3_showsNone_47 : decode cX3_showsNone 47 = .ok (.ifCond .eq 7, 3) := by decide +kernel
theorem dX3_showsNone_50 : decode cX3_showsNone 50 = .ok (.iconst 1, 1) := by decide +kernel
theorem dX3_showsNone_51 : decode cX3_showsNone 51 = .ok (.goto 4, 3) := by decide +kernel
theorem dX3_showsNone_54 : decode cX3_showsNone 54 = .ok (.iconst 0, 1) := by decide +kernel
theorem dX3_showsNone_55 : decode cX3_showsNone 55 = .ok (.ireturn, 1) := by decide +kernel
theorem dX3_shapeSolutions_0 : decode cX3_shapeSolutions 0 = .ok (.aload_n 1, 1) := by decide +kernel
theorem dX3_shapeSolutions_1 : decode cX3_shapeSolutions 1 = .ok (.invokevirtual 52, 3) := by decide +kernel
theorem dX3_shapeSolutions_4 : decode cX3_shapeSolutions 4 = .ok (.istore_n 2, 1) := by decide +kernel
theorem dX3_shapeSolutions_5 : decode cX3_shapeSolutions 5 = .ok (.aload_n 0, 1) := by decide +kernel
theorem dX3_shapeSolutions_6 : decode cX3_shapeSolutions 6 = .ok (.getfield 12, 3) := by decide +kernel
theorem dX3_shapeSolutions_9 : decode cX3_shapeSolutions 9 = .ok (.aload_n 1, 1) := by decide +kernel
theorem dX3_shapeSolutions_10 : decode cX3_shapeSolutions 10 = .ok (.invokevirtual 18, 3) := by decide +kernel
theorem dX3_shapeSolutions_13 : decode cX3_shapeSolutions 13 = .ok (.iload_n 2, 1) := by decide +kernel
theorem dX3_shapeSolutions_14 : decode cX3_shapeSolutions 14 = .ok (.iconst 1, 1) := by decide +kernel
theorem dX3_shapeSolutions_15 : decode cX3_shapeSolutions 15 = .ok (.iadd, 1) := by decide +kernel
theorem dX3_shapeSolutions_16 : decode cX3_shapeSolutions 16 = .ok (.aload_n 1, 1) := by decide +kernel
theorem dX3_shapeSolutions_17 : decode cX3_shapeSolutions 17 = .ok (.invokevirtual 24, 3) := by decide +kernel
theorem dX3_shapeSolutions_20 : decode cX3_shapeSolutions 20 = .ok (.iadd, 1) := by decide +kernel
theorem dX3_shapeSolutions_21 : decode cX3_shapeSolutions 21 = .ok (.invokevirtual 27, 3) := by decide +kernel
theorem dX3_shapeSolutions_24 : decode cX3_shapeSolutions 24 = .ok (.aload_n 0, 1) := by decide +kernel
theorem dX3_shapeSolutions_25 : decode cX3_shapeSolutions 25 = .ok (.getfield 12, 3) := by decide +kernel
theorem dX3_shapeSolutions_28 : decode cX3_shapeSolutions 28 = .ok (.invokevirtual 35, 3) := by decide +kernel
theorem dX3_shapeSolutions_31 : decode cX3_shapeSolutions 31 = .ok (.iconst 0, 1) := by decide +kernel
theorem dX3_shapeSolutions_32 : decode cX3_shapeSolutions 32 = .ok (.istore_n 3, 1) := by decide +kernel
theorem dX3_shapeSolutions_33 : decode cX3_shapeSolutions 33 = .ok (.iload_n 3, 1) := by decide +kernel
theorem dX3_shapeSolutions_34 : decode cX3_shapeSolutions 34 = .ok (.iload_n 2, 1) := by decide +kernel
theorem dX3_shapeSolutions_35 : decode cX3_shapeSolutions 35 = .ok (.if_icmp .ge 24, 3) := by decide +kernel
theorem dX3_shapeSolutions_38 : decode cX3_shapeSolutions 38 = .ok (.aload_n 0, 1) := by decide +kernel
theorem dX3_shapeSolutions_39 : decode cX3_shapeSolutions 39 = .ok (.getfield 12, 3) := by decide +kernel
theorem dX3_shapeSolutions_42 : decode cX3_shapeSolutions 42 = .ok (.iload_n 3, 1) := by decide +kernel
theorem dX3_shapeSolutions_43 : decode cX3_shapeSolutions 43 = .ok (.aload_n 1, 1) := by decide +kernel
theorem dX3_shapeSolutions_44 : decode cX3_shapeSolutions 44 = .ok (.iload_n 3, 1) := by decide +kernel
theorem dX3_shapeSolutions_45 : decode cX3_shapeSolutions 45 = .ok (.iconst 3, 1) := by decide +kernel
theorem dX3_shapeSolutions_46 : decode cX3_shapeSolutions 46 = .ok (.invokevirtual 90, 3) := by decide +kernel
theorem dX3_shapeSolutions_49 : decode cX3_shapeSolutions 49 = .ok (.ineg, 1) := by decide +kernel
theorem dX3_shapeSolutions_50 : decode cX3_shapeSolutions 50 = .ok (.invokevirtual 38, 3) := by decide +kernel
theorem dX3_shapeSolutions_53 : decode cX3_shapeSolutions 53 = .ok (.iinc 3 1, 3) := by decide +kernel
theorem dX3_shapeSolutions_56 : decode cX3_shapeSolutions 56 = .ok (.goto (-23), 3) := by decide +kernel
theorem dX3_shapeSolutions_59 : decode cX3_shapeSolutions 59 = .ok (.aload_n 0, 1) := by decide +kernel
theorem dX3_shapeSolutions_60 : decode cX3_shapeSolutions 60 = .ok (.getfield 12, 3) := by decide +kernel
theorem dX3_shapeSolutions_63 : decode cX3_shapeSolutions 63 = .ok (.iload_n 2, 1) := by decide +kernel
theorem dX3_shapeSolutions_64 : decode cX3_shapeSolutions 64 = .ok (.iconst 1, 1) := by decide +kernel
theorem dX3_shapeSolutions_65 : decode cX3_shapeSolutions 65 = .ok (.invokevirtual 38, 3) := by decide +kernel
theorem dX3_shapeSolutions_68 : decode cX3_shapeSolutions 68 = .ok (.aload_n 0, 1) := by decide +kernel
theorem dX3_shapeSolutions_69 : decode cX3_shapeSolutions 69 = .ok (.aload_n 1, 1) := by decide +kernel
theorem dX3_shapeSolutions_70 : decode cX3_shapeSolutions 70 = .ok (.iload_n 2, 1) := by decide +kernel
theorem dX3_shapeSolutions_71 : decode cX3_shapeSolutions 71 = .ok (.iconst 1, 1) := by decide +kernel
theorem dX3_shapeSolutions_72 : decode cX3_shapeSolutions 72 = .ok (.iadd, 1) := by decide +kernel
theorem dX3_shapeSolutions_73 : decode cX3_shapeSolutions 73 = .ok (.invokevirtual 55, 3) := by decide +kernel
theorem dX3_shapeSolutions_76 : decode cX3_shapeSolutions 76 = .ok (.aload_n 0, 1) := by decide +kernel
theorem dX3_shapeSolutions_77 : decode cX3_shapeSolutions 77 = .ok (.getfield 12, 3) := by decide +kernel
theorem dX3_shapeSolutions_80 : decode cX3_shapeSolutions 80 = .ok (.invokevirtual 41, 3) := by decide +kernel
theorem dX3_shapeSolutions_83 : decode cX3_shapeSolutions 83 = .ok (.return_, 1) := by decide +kernel
theorem dX3_isSolvable_0 : decode cX3_isSolvable 0 = .ok (.aload_n 0, 1) := by decide +kernel
theorem dX3_isSolvable_1 : decode cX3_isSolvable 1 = .ok (.getfield 12, 3) := by decide +kernel
theorem dX3_isSolvable_4 : decode cX3_isSolvable 4 = .ok (.aload_n 1, 1) := by decide +kernel
theorem dX3_isSolvable_5 : decode cX3_isSolvable 5 = .ok (.invokevirtual 52, 3) := by decide +kernel
theorem dX3_isSolvable_8 : decode cX3_isSolvable 8 = .ok (.aload_n 1, 1) := by decide +kernel
theorem dX3_isSolvable_9 : decode cX3_isSolvable 9 = .ok (.invokevirtual 52, 3) := by decide +kernel
theorem dX3_isSolvable_12 : decode cX3_isSolvable 12 = .ok (.invokevirtual 87, 3) := by decide +kernel
theorem dX3_isSolvable_15 : decode cX3_isSolvable 15 = .ok (.iconst 1, 1) := by decide +kernel
theorem dX3_isSolvable_16 : decode cX3_isSolvable 16 = .ok (.if_icmp .ne 7, 3) := by decide +kernel
theorem dX3_isSolvable_19 : decode cX3_isSolvable 19 = .ok (.iconst 1, 1) := by decide +kernel
theorem dX3_isSolvable_20 : decode cX3_isSolvable 20 = .ok (.goto 4, 3) := by decide +kernel
theorem dX3_isSolvable_23 : decode cX3_isSolvable 23 = .ok (.iconst 0, 1) := by decide +kernel
theorem dX3_isSolvable_24 : decode cX3_isSolvable 24 = .ok (.ireturn, 1) := by decide +kernel
theorem dX3_addUnknowns_0 : decode cX3_addUnknowns 0 = .ok (.iconst 0, 1) := by decide +kernel
theorem dX3_addUnknowns_1 : decode cX3_addUnknowns 1 = .ok (.istore_n 3, 1) := by decide +kernel
theorem dX3_addUnknowns_2 : decode cX3_addUnknowns 2 = .ok (.iload_n 3, 1) := by decide +kernel
theorem dX3_addUnknowns_3 : decode cX3_addUnknowns 3 = .ok (.aload_n 1, 1) := by decide +kernel
theorem dX3_addUnknowns_4 : decode cX3_addUnknowns 4 = .ok (.invokevirtual 24, 3) := by decide +kernel
theorem dX3_addUnknowns_7 : decode cX3_addUnknowns 7 = .ok (.if_icmp .ge 61, 3) := by decide +kernel
theorem dX3_addUnknowns_10 : decode cX3_addUnknowns 10 = .ok (.aload_n 0, 1) := by decide +kernel
theorem dX3_addUnknowns_11 : decode cX3_addUnknowns 11 = .ok (.getfield 12, 3) := by decide +kernel
theorem dX3_addUnknowns_14 : decode cX3_addUnknowns 14 = .ok (.invokevirtual 35, 3) := by decide +kernel
theorem dX3_addUnknowns_17 : decode cX3_addUnknowns 17 = .ok (.iconst 0, 1) := by decide +kernel
theorem dX3_addUnknowns_18 : decode cX3_addUnknowns 18 = .ok (.istore 4, 2) := by decide +kernel
theorem dX3_addUnknowns_20 : decode cX3_addUnknowns 20 = .ok (.iload 4, 2) := by decide +kernel
theorem dX3_addUnknowns_22 : decode cX3_addUnknowns 22 = .ok (.aload_n 1, 1) := by decide +kernel
theorem dX3_addUnknowns_23 : decode cX3_addUnknowns 23 = .ok (.invokevirtual 52, 3) := by decide +kernel
theorem dX3_addUnknowns_26 : decode cX3_addUnknowns 26 = .ok (.if_icmp .ge 25, 3) := by decide +kernel
theorem dX3_addUnknowns_29 : decode cX3_addUnknowns 29 = .ok (.aload_n 0, 1) := by decide +kernel
theorem dX3_addUnknowns_30 : decode cX3_addUnknowns 30 = .ok (.getfield 12, 3) := by decide +kernel
theorem dX3_addUnknowns_33 : decode cX3_addUnknowns 33 = .ok (.iload 4, 2) := by decide +kernel
theorem dX3_addUnknowns_35 : decode cX3_addUnknowns 35 = .ok (.aload_n 1, 1) := by decide +kernel
theorem dX3_addUnknowns_36 : decode cX3_addUnknowns 36 = .ok (.iload 4, 2) := by decide +kernel
theorem dX3_addUnknowns_38 : decode cX3_addUnknowns 38 = .ok (.iload_n 3, 1) := by decide +kernel
theorem dX3_addUnknowns_39 : decode cX3_addUnknowns 39 = .ok (.invokevirtual 90, 3) := by decide +kernel
theorem dX3_addUnknowns_42 : decode cX3_addUnknowns 42 = .ok (.invokevirtual 38, 3) := by decide +kernel
theorem dX3_addUnknowns_45 : decode cX3_addUnknowns 45 = .ok (.iinc 4 1, 3) := by decide +kernel
theorem dX3_addUnknowns_48 : decode cX3_addUnknowns 48 = .ok (.goto (-28), 3) := by decide +kernel
theorem dX3_addUnknowns_51 : decode cX3_addUnknowns 51 = .ok (.aload_n 0, 1) := by decide +kernel
theorem dX3_addUnknowns_52 : decode cX3_addUnknowns 52 = .ok (.getfield 12, 3) := by decide +kernel
theorem dX3_addUnknowns_55 : decode cX3_addUnknowns 55 = .ok (.iload_n 2, 1) := by decide +kernel
theorem dX3_addUnknowns_56 : decode cX3_addUnknowns 56 = .ok (.iload_n 3, 1) := by decide +kernel
theorem dX3_addUnknowns_57 : decode cX3_addUnknowns 57 = .ok (.iadd, 1) := by decide +kernel
theorem dX3_addUnknowns_58 : decode cX3_addUnknowns 58 = .ok (.iconst 1, 1) := by decide +kernel
theorem dX3_addUnknowns_59 : decode cX3_addUnknowns 59 = .ok (.invokevirtual 38, 3) := by decide +kernel
theorem dX3_addUnknowns_62 : decode cX3_addUnknowns 62 = .ok (.iinc 3 1, 3) := by decide +kernel
theorem dX3_addUnknowns_65 : decode cX3_addUnknowns 65 = .ok (.goto (-63), 3) := by decide +kernel
theorem dX3_addUnknowns_68 : decode cX3_addUnknowns 68 = .ok (.return_, 1) := by decide +kernel
theorem dX3_sizeOfTimes_0 : decode cX3_sizeOfTimes 0 = .ok (.aload_n 0, 1) := by decide +kernel
theorem dX3_sizeOfTimes_1 : decode cX3_sizeOfTimes 1 = .ok (.getfield 12, 3) := by decide +kernel
theorem dX3_sizeOfTimes_4 : decode cX3_sizeOfTimes 4 = .ok (.aload_n 1, 1) := by decide +kernel
theorem dX3_sizeOfTimes_5 : decode cX3_sizeOfTimes 5 = .ok (.invokevirtual 18, 3) := by decide +kernel
theorem dX3_sizeOfTimes_8 : decode cX3_sizeOfTimes 8 = .ok (.aload_n 1, 1) := by decide +kernel
theorem dX3_sizeOfTimes_9 : decode cX3_sizeOfTimes 9 = .ok (.invokevirtual 24, 3) := by decide +kernel
theorem dX3_sizeOfTimes_12 : decode cX3_sizeOfTimes 12 = .ok (.invokevirtual 27, 3) := by decide +kernel
theorem dX3_sizeOfTimes_15 : decode cX3_sizeOfTimes 15 = .ok (.aload_n 0, 1) := by decide +kernel
theorem dX3_sizeOfTimes_16 : decode cX3_sizeOfTimes 16 = .ok (.aload_n 1, 1) := by decide +kernel
theorem dX3_sizeOfTimes_17 : decode cX3_sizeOfTimes 17 = .ok (.iload_n 2, 1) := by decide +kernel
theorem dX3_sizeOfTimes_18 : decode cX3_sizeOfTimes 18 = .ok (.iload_n 3, 1) := by decide +kernel
theorem dX3_sizeOfTimes_19 : decode cX3_sizeOfTimes 19 = .ok (.iconst 0, 1) := by decide +kernel
theorem dX3_sizeOfTimes_20 : decode cX3_sizeOfTimes 20 = .ok (.invokevirtual 31, 3) := by decide +kernel
theorem dX3_sizeOfTimes_23 : decode cX3_sizeOfTimes 23 = .ok (.aload_n 0, 1) := by decide +kernel
theorem dX3_sizeOfTimes_24 : decode cX3_sizeOfTimes 24 = .ok (.getfield 12, 3) := by decide +kernel
theorem dX3_sizeOfTimes_27 : decode cX3_sizeOfTimes 27 = .ok (.invokevirtual 41, 3) := by decide +kernel
theorem dX3_sizeOfTimes_30 : decode cX3_sizeOfTimes 30 = .ok (.aload_n 0, 1) := by decide +kernel
theorem dX3_sizeOfTimes_31 : decode cX3_sizeOfTimes 31 = .ok (.getfield 12, 3) := by decide +kernel
theorem dX3_sizeOfTimes_34 : decode cX3_sizeOfTimes 34 = .ok (.iconst 0, 1) := by decide +kernel
theorem dX3_sizeOfTimes_35 : decode cX3_sizeOfTimes 35 = .ok (.invokevirtual 84, 3) := by decide +kernel
theorem dX3_sizeOfTimes_38 : decode cX3_sizeOfTimes 38 = .ok (.ireturn, 1) := by decide +kernel
theorem dX3_powersUpTo_0 : decode cX3_powersUpTo 0 = .ok (.iconst 0, 1) := by decide +kernel
theorem dX3_powersUpTo_1 : decode cX3_powersUpTo 1 = .ok (.istore_n 2, 1) := by decide +kernel
theorem dX3_powersUpTo_2 : decode cX3_powersUpTo 2 = .ok (.iload_n 1, 1) := by decide +kernel
theorem dX3_powersUpTo_3 : decode cX3_powersUpTo 3 = .ok (.istore_n 3, 1) := by decide +kernel
theorem dX3_powersUpTo_4 : decode cX3_powersUpTo 4 = .ok (.iload_n 3, 1) := by decide +kernel
theorem dX3_powersUpTo_5 : decode cX3_powersUpTo 5 = .ok (.iload_n 0, 1) := by decide +kernel
theorem dX3_powersUpTo_6 : decode cX3_powersUpTo 6 = .ok (.if_icmp .gt 18, 3) := by decide +kernel
theorem dX3_powersUpTo_9 : decode cX3_powersUpTo 9 = .ok (.iload_n 2, 1) := by decide +kernel
theorem dX3_powersUpTo_10 : decode cX3_powersUpTo 10 = .ok (.iconst 3, 1) := by decide +kernel
theorem dX3_powersUpTo_11 : decode cX3_powersUpTo 11 = .ok (.if_icmp .ge 13, 3) := by decide +kernel
theorem dX3_powersUpTo_14 : decode cX3_powersUpTo 14 = .ok (.iinc 2 1, 3) := by decide +kernel
theorem dX3_powersUpTo_17 : decode cX3_powersUpTo 17 = .ok (.iload_n 3, 1) := by decide +kernel
theorem dX3_powersUpTo_18 : decode cX3_powersUpTo 18 = .ok (.iload_n 1, 1) := by decide +kernel
theorem dX3_powersUpTo_19 : decode cX3_powersUpTo 19 = .ok (.imul, 1) := by decide +kernel
theorem dX3_powersUpTo_20 : decode cX3_powersUpTo 20 = .ok (.istore_n 3, 1) := by decide +kernel
theorem dX3_powersUpTo_21 : decode cX3_powersUpTo 21 = .ok (.goto (-17), 3) := by decide +kernel
theorem dX3_powersUpTo_24 : decode cX3_powersUpTo 24 = .ok (.iload_n 2, 1) := by decide +kernel
theorem dX3_powersUpTo_25 : decode cX3_powersUpTo 25 = .ok (.ireturn, 1) := by decide +kernel
theorem dX3_addForms_0 : decode cX3_addForms 0 = .ok (.aload_n 1, 1) := by decide +kernel
theorem dX3_addForms_1 : decode cX3_addForms 1 = .ok (.invokevirtual 24, 3) := by decide +kernel
theorem dX3_addForms_4 : decode cX3_addForms 4 = .ok (.istore 5, 2) := by decide +kernel
theorem dX3_addForms_6 : decode cX3_addForms 6 = .ok (.iconst 0, 1) := by decide +kernel
theorem dX3_addForms_7 : decode cX3_addForms 7 = .ok (.istore 6, 2) := by decide +kernel
theorem dX3_addForms_9 : decode cX3_addForms 9 = .ok (.iload 6, 2) := by decide +kernel
theorem dX3_addForms_11 : decode cX3_addForms 11 = .ok (.iload 5, 2) := by decide +kernel
theorem dX3_addForms_13 : decode cX3_addForms 13 = .ok (.if_icmp .ge 74, 3) := by decide +kernel
theorem dX3_addForms_16 : decode cX3_addForms 16 = .ok (.aload_n 0, 1) := by decide +kernel
theorem dX3_addForms_17 : decode cX3_addForms 17 = .ok (.getfield 12, 3) := by decide +kernel
theorem dX3_addForms_20 : decode cX3_addForms 20 = .ok (.invokevirtual 35, 3) := by decide +kernel
theorem dX3_addForms_23 : decode cX3_addForms 23 = .ok (.iload 6, 2) := by decide +kernel
theorem dX3_addForms_25 : decode cX3_addForms 25 = .ok (.istore 7, 2) := by decide +kernel
theorem dX3_addForms_27 : decode cX3_addForms 27 = .ok (.iload 7, 2) := by decide +kernel
theorem dX3_addForms_29 : decode cX3_addForms 29 = .ok (.iload 5, 2) := by decide +kernel
theorem dX3_addForms_31 : decode cX3_addForms 31 = .ok (.if_icmp .ge 50, 3) := by decide +kernel
theorem dX3_addForms_34 : decode cX3_addForms 34 = .ok (.aload_n 1, 1) := by decide +kernel
theorem dX3_addForms_35 : decode cX3_addForms 35 = .ok (.iload_n 2, 1) := by decide +kernel
theorem dX3_addForms_36 : decode cX3_addForms 36 = .ok (.iload 6, 2) := by decide +kernel
theorem dX3_addForms_38 : decode cX3_addForms 38 = .ok (.iload 7, 2) := by decide +kernel
theorem dX3_addForms_40 : decode cX3_addForms 40 = .ok (.invokevirtual 48, 3) := by decide +kernel
theorem dX3_addForms_43 : decode cX3_addForms 43 = .ok (.istore 8, 2) := by decide +kernel
theorem dX3_addForms_45 : decode cX3_addForms 45 = .ok (.aload_n 0, 1) := by decide +kernel
theorem dX3_addForms_46 : decode cX3_addForms 46 = .ok (.getfield 12, 3) := by decide +kernel
theorem dX3_addForms_49 : decode cX3_addForms 49 = .ok (.iload 7, 2) := by decide +kernel
theorem dX3_addForms_51 : decode cX3_addForms 51 = .ok (.iload_n 3, 1) := by decide +kernel
theorem dX3_addForms_52 : decode cX3_addForms 52 = .ok (.iload 8, 2) := by decide +kernel
theorem dX3_addForms_54 : decode cX3_addForms 54 = .ok (.imul, 1) := by decide +kernel
theorem dX3_addForms_55 : decode cX3_addForms 55 = .ok (.invokevirtual 38, 3) := by decide +kernel
theorem dX3_addForms_58 : decode cX3_addForms 58 = .ok (.aload_n 0, 1) := by decide +kernel
theorem dX3_addForms_59 : decode cX3_addForms 59 = .ok (.getfield 12, 3) := by decide +kernel
theorem dX3_addForms_62 : decode cX3_addForms 62 = .ok (.iload 5, 2) := by decide +kernel
theorem dX3_addForms_64 : decode cX3_addForms 64 = .ok (.iload 7, 2) := by decide +kernel
theorem dX3_addForms_66 : decode cX3_addForms 66 = .ok (.iadd, 1) := by decide +kernel
theorem dX3_addForms_67 : decode cX3_addForms 67 = .ok (.iload 4, 2) := by decide +kernel
theorem dX3_addForms_69 : decode cX3_addForms 69 = .ok (.iload 8, 2) := by decide +kernel
theorem dX3_addForms_71 : decode cX3_addForms 71 = .ok (.imul, 1) := by decide +kernel
theorem dX3_addForms_72 : decode cX3_addForms 72 = .ok (.invokevirtual 38, 3) := by decide +kernel
theorem dX3_addForms_75 : decode cX3_addForms 75 = .ok (.iinc 7 1, 3) := by decide +kernel
theorem dX3_addForms_78 : decode cX3_addForms 78 = .ok (.goto (-51), 3) := by decide +kernel
theorem dX3_addForms_81 : decode cX3_addForms 81 = .ok (.iinc 6 1, 3) := by decide +kernel
theorem dX3_addForms_84 : decode cX3_addForms 84 = .ok (.goto (-75), 3) := by decide +kernel
theorem dX3_addForms_87 : decode cX3_addForms 87 = .ok (.return_, 1) := by decide +kernel
theorem dX3_store_0 : decode cX3_store 0 = .ok (.iconst 0, 1) := by decide +kernel
theorem dX3_store_1 : decode cX3_store 1 = .ok (.istore 4, 2) := by decide +kernel
theorem dX3_store_3 : decode cX3_store 3 = .ok (.iload 4, 2) := by decide +kernel
theorem dX3_store_5 : decode cX3_store 5 = .ok (.aload_n 1, 1) := by decide +kernel
theorem dX3_store_6 : decode cX3_store 6 = .ok (.invokevirtual 24, 3) := by decide +kernel
theorem dX3_store_9 : decode cX3_store 9 = .ok (.if_icmp .ge 51, 3) := by decide +kernel
theorem dX3_store_12 : decode cX3_store 12 = .ok (.iconst 0, 1) := by decide +kernel
theorem dX3_store_13 : decode cX3_store 13 = .ok (.istore 5, 2) := by decide +kernel
theorem dX3_store_15 : decode cX3_store 15 = .ok (.iload 5, 2) := by decide +kernel
theorem dX3_store_17 : decode cX3_store 17 = .ok (.aload_n 1, 1) := by decide +kernel
theorem dX3_store_18 : decode cX3_store 18 = .ok (.invokevirtual 24, 3) := by decide +kernel
theorem dX3_store_21 : decode cX3_store 21 = .ok (.if_icmp .ge 33, 3) := by decide +kernel
theorem dX3_store_24 : decode cX3_store 24 = .ok (.aload_n 1, 1) := by decide +kernel
theorem dX3_store_25 : decode cX3_store 25 = .ok (.iload_n 2, 1) := by decide +kernel
theorem dX3_store_26 : decode cX3_store 26 = .ok (.iload 4, 2) := by decide +kernel
theorem dX3_store_28 : decode cX3_store 28 = .ok (.iload 5, 2) := by decide +kernel
theorem dX3_store_30 : decode cX3_store 30 = .ok (.aload_n 0, 1) := by decide +kernel
theorem dX3_store_31 : decode cX3_store 31 = .ok (.getfield 12, 3) := by decide +kernel
theorem dX3_store_34 : decode cX3_store 34 = .ok (.iload_n 3, 1) := by decide +kernel
theorem dX3_store_35 : decode cX3_store 35 = .ok (.iload 4, 2) := by decide +kernel
theorem dX3_store_37 : decode cX3_store 37 = .ok (.iadd, 1) := by decide +kernel
theorem dX3_store_38 : decode cX3_store 38 = .ok (.iload_n 3, 1) := by decide +kernel
theorem dX3_store_39 : decode cX3_store 39 = .ok (.iload 5, 2) := by decide +kernel
theorem dX3_store_41 : decode cX3_store 41 = .ok (.iadd, 1) := by decide +kernel
theorem dX3_store_42 : decode cX3_store 42 = .ok (.invokevirtual 87, 3) := by decide +kernel
theorem dX3_store_45 : decode cX3_store 45 = .ok (.invokevirtual 100, 3) := by decide +kernel
theorem dX3_store_48 : decode cX3_store 48 = .ok (.iinc 5 1, 3) := by decide +kernel
theorem dX3_store_51 : decode cX3_store 51 = .ok (.goto (-36), 3) := by decide +kernel
theorem dX3_store_54 : decode cX3_store 54 = .ok (.iinc 4 1, 3) := by decide +kernel
theorem dX3_store_57 : decode cX3_store 57 = .ok (.goto (-54), 3) := by decide +kernel
theorem dX3_store_60 : decode cX3_store 60 = .ok (.return_, 1) := by decide +kernel
