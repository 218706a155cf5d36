theorem dX2_init_0 : decode cX2_init 0 = .ok (.aload_n 0, 1) := by decide +kernel
theorem dX2_init_1 : decode cX2_init 1 = .ok (.invokespecial 3, 3) := by decide +kernel
theorem dX2_init_4 : decode cX2_init 4 = .ok (.aload_n 0, 1) := by decide +kernel
theorem dX2_init_5 : decode cX2_init 5 = .ok (.new 9, 3) := by decide +kernel
theorem dX2_init_8 : decode cX2_init 8 = .ok (.dup, 1) := by decide +kernel
theorem dX2_init_9 : decode cX2_init 9 = .ok (.invokespecial 11, 3) := by decide +kernel
theorem dX2_init_12 : decode cX2_init 12 = .ok (.putfield 12, 3) := by decide +kernel
theorem dX2_init_15 : decode cX2_init 15 = .ok (.aload_n 0, 1) := by decide +kernel
theorem dX2_init_16 : decode cX2_init 16 = .ok (.iconst 3, 1) := by decide +kernel
theorem dX2_init_17 : decode cX2_init 17 = .ok (.newarray .int, 2) := by decide +kernel
theorem dX2_init_19 : decode cX2_init 19 = .ok (.putfield 18, 3) := by decide +kernel
theorem dX2_init_22 : decode cX2_init 22 = .ok (.aload_n 0, 1) := by decide +kernel
theorem dX2_init_23 : decode cX2_init 23 = .ok (.aload_n 1, 1) := by decide +kernel
theorem dX2_init_24 : decode cX2_init 24 = .ok (.putfield 22, 3) := by decide +kernel
theorem dX2_init_27 : decode cX2_init 27 = .ok (.aload_n 0, 1) := by decide +kernel
theorem dX2_init_28 : decode cX2_init 28 = .ok (.aload_n 2, 1) := by decide +kernel
theorem dX2_init_29 : decode cX2_init 29 = .ok (.putfield 26, 3) := by decide +kernel
theorem dX2_init_32 : decode cX2_init 32 = .ok (.return_, 1) := by decide +kernel
theorem dX2_lineCount_0 : decode cX2_lineCount 0 = .ok (.aload_n 0, 1) := by decide +kernel
theorem dX2_lineCount_1 : decode cX2_lineCount 1 = .ok (.getfield 30, 3) := by decide +kernel
theorem dX2_lineCount_4 : decode cX2_lineCount 4 = .ok (.ireturn, 1) := by decide +kernel
theorem dX2_faultKind_0 : decode cX2_faultKind 0 = .ok (.aload_n 0, 1) := by decide +kernel
theorem dX2_faultKind_1 : decode cX2_faultKind 1 = .ok (.getfield 34, 3) := by decide +kernel
theorem dX2_faultKind_4 : decode cX2_faultKind 4 = .ok (.ireturn, 1) := by decide +kernel
theorem dX2_faultPlace_0 : decode cX2_faultPlace 0 = .ok (.aload_n 0, 1) := by decide +kernel
theorem dX2_faultPlace_1 : decode cX2_faultPlace 1 = .ok (.getfield 37, 3) := by decide +kernel
theorem dX2_faultPlace_4 : decode cX2_faultPlace 4 = .ok (.ireturn, 1) := by decide +kernel
theorem dX2_giveTo_0 : decode cX2_giveTo 0 = .ok (.aload_n 1, 1) := by decide +kernel
theorem dX2_giveTo_1 : decode cX2_giveTo 1 = .ok (.aload_n 0, 1) := by decide +kernel
theorem dX2_giveTo_2 : decode cX2_giveTo 2 = .ok (.getfield 12, 3) := by decide +kernel
theorem dX2_giveTo_5 : decode cX2_giveTo 5 = .ok (.getfield 40, 3) := by decide +kernel
theorem dX2_giveTo_8 : decode cX2_giveTo 8 = .ok (.invokevirtual 43, 3) := by decide +kernel
theorem dX2_giveTo_11 : decode cX2_giveTo 11 = .ok (.return_, 1) := by decide +kernel
theorem dX2_readText_0 : decode cX2_readText 0 = .ok (.aload_n 0, 1) := by decide +kernel
theorem dX2_readText_1 : decode cX2_readText 1 = .ok (.invokevirtual 47, 3) := by decide +kernel
theorem dX2_readText_4 : decode cX2_readText 4 = .ok (.iconst 0, 1) := by decide +kernel
theorem dX2_readText_5 : decode cX2_readText 5 = .ok (.istore_n 1, 1) := by decide +kernel
theorem dX2_readText_6 : decode cX2_readText 6 = .ok (.iload_n 1, 1) := by decide +kernel
theorem dX2_readText_7 : decode cX2_readText 7 = .ok (.sipush 540, 3) := by decide +kernel
theorem dX2_readText_10 : decode cX2_readText 10 = .ok (.if_icmp .gt 73, 3) := by decide +kernel
theorem dX2_readText_13 : decode cX2_readText 13 = .ok (.aload_n 0, 1) := by decide +kernel
theorem dX2_readText_14 : decode cX2_readText 14 = .ok (.getfield 34, 3) := by decide +kernel
theorem dX2_readText_17 : decode cX2_readText 17 = .ok (.ifCond .ne 66, 3) := by decide +kernel
theorem dX2_readText_20 : decode cX2_readText 20 = .ok (.aload_n 0, 1) := by decide +kernel
theorem dX2_readText_21 : decode cX2_readText 21 = .ok (.invokevirtual 52, 3) := by decide +kernel
theorem dX2_readText_24 : decode cX2_readText 24 = .ok (.aload_n 0, 1) := by decide +kernel
theorem dX2_readText_25 : decode cX2_readText 25 = .ok (.getfield 55, 3) := by decide +kernel
theorem dX2_readText_28 : decode cX2_readText 28 = .ok (.iconst 1, 1) := by decide +kernel
theorem dX2_readText_29 : decode cX2_readText 29 = .ok (.if_icmp .ne 25, 3) := by decide +kernel
theorem dX2_readText_32 : decode cX2_readText 32 = .ok (.aload_n 0, 1) := by decide +kernel
theorem dX2_readText_33 : decode cX2_readText 33 = .ok (.getfield 58, 3) := by decide +kernel
theorem dX2_readText_36 : decode cX2_readText 36 = .ok (.ifCond .ne 18, 3) := by decide +kernel
theorem dX2_readText_39 : decode cX2_readText 39 = .ok (.aload_n 0, 1) := by decide +kernel
theorem dX2_readText_40 : decode cX2_readText 40 = .ok (.getfield 22, 3) := by decide +kernel
theorem dX2_readText_43 : decode cX2_readText 43 = .ok (.invokevirtual 61, 3) := by decide +kernel
theorem dX2_readText_46 : decode cX2_readText 46 = .ok (.sipush 500, 3) := by decide +kernel
theorem dX2_readText_49 : decode cX2_readText 49 = .ok (.if_icmp .gt 5, 3) := by decide +kernel
theorem dX2_readText_52 : decode cX2_readText 52 = .ok (.iconst 1, 1) := by decide +kernel
theorem dX2_readText_53 : decode cX2_readText 53 = .ok (.ireturn, 1) := by decide +kernel
theorem dX2_readText_54 : decode cX2_readText 54 = .ok (.aload_n 0, 1) := by decide +kernel
theorem dX2_readText_55 : decode cX2_readText 55 = .ok (.invokevirtual 65, 3) := by decide +kernel
theorem dX2_readText_58 : decode cX2_readText 58 = .ok (.aload_n 0, 1) := by decide +kernel
theorem dX2_readText_59 : decode cX2_readText 59 = .ok (.getfield 55, 3) := by decide +kernel
theorem dX2_readText_62 : decode cX2_readText 62 = .ok (.iconst 4, 1) := by decide +kernel
theorem dX2_readText_63 : decode cX2_readText 63 = .ok (.if_icmp .ne 14, 3) := by decide +kernel
theorem dX2_readText_66 : decode cX2_readText 66 = .ok (.aload_n 0, 1) := by decide +kernel
theorem dX2_readText_67 : decode cX2_readText 67 = .ok (.getfield 34, 3) := by decide +kernel
theorem dX2_readText_70 : decode cX2_readText 70 = .ok (.ifCond .ne 7, 3) := by decide +kernel
theorem dX2_readText_73 : decode cX2_readText 73 = .ok (.aload_n 0, 1) := by decide +kernel
theorem dX2_readText_74 : decode cX2_readText 74 = .ok (.invokevirtual 68, 3) := by decide +kernel
theorem dX2_readText_77 : decode cX2_readText 77 = .ok (.iinc 1 1, 3) := by decide +kernel
theorem dX2_readText_80 : decode cX2_readText 80 = .ok (.goto (-74), 3) := by decide +kernel
theorem dX2_readText_83 : decode cX2_readText 83 = .ok (.aload_n 0, 1) := by decide +kernel
theorem dX2_readText_84 : decode cX2_readText 84 = .ok (.getfield 34, 3) := by decide +kernel
theorem dX2_readText_87 : decode cX2_readText 87 = .ok (.ifCond .ne 7, 3) := by decide +kernel
theorem dX2_readText_90 : decode cX2_readText 90 = .ok (.iconst 1, 1) := by decide +kernel
theorem dX2_readText_91 : decode cX2_readText 91 = .ok (.goto 4, 3) := by decide +kernel
theorem dX2_readText_94 : decode cX2_readText 94 = .ok (.iconst 0, 1) := by decide +kernel
theorem dX2_readText_95 : decode cX2_readText 95 = .ok (.ireturn, 1) := by decide +kernel
theorem dX2_startText_0 : decode cX2_startText 0 = .ok (.aload_n 0, 1) := by decide +kernel
theorem dX2_startText_1 : decode cX2_startText 1 = .ok (.getfield 12, 3) := by decide +kernel
theorem dX2_startText_4 : decode cX2_startText 4 = .ok (.iconst 0, 1) := by decide +kernel
theorem dX2_startText_5 : decode cX2_startText 5 = .ok (.iconst 0, 1) := by decide +kernel
theorem dX2_startText_6 : decode cX2_startText 6 = .ok (.invokevirtual 71, 3) := by decide +kernel
theorem dX2_startText_9 : decode cX2_startText 9 = .ok (.aload_n 0, 1) := by decide +kernel
theorem dX2_startText_10 : decode cX2_startText 10 = .ok (.iconst 0, 1) := by decide +kernel
theorem dX2_startText_11 : decode cX2_startText 11 = .ok (.putfield 75, 3) := by decide +kernel
theorem dX2_startText_14 : decode cX2_startText 14 = .ok (.aload_n 0, 1) := by decide +kernel
theorem dX2_startText_15 : decode cX2_startText 15 = .ok (.iconst 0, 1) := by decide +kernel
theorem dX2_startText_16 : decode cX2_startText 16 = .ok (.putfield 58, 3) := by decide +kernel
theorem dX2_startText_19 : decode cX2_startText 19 = .ok (.aload_n 0, 1) := by decide +kernel
theorem dX2_startText_20 : decode cX2_startText 20 = .ok (.iconst 0, 1) := by decide +kernel
theorem dX2_startText_21 : decode cX2_startText 21 = .ok (.putfield 30, 3) := by decide +kernel
theorem dX2_startText_24 : decode cX2_startText 24 = .ok (.aload_n 0, 1) := by decide +kernel
theorem dX2_startText_25 : decode cX2_startText 25 = .ok (.iconst 0, 1) := by decide +kernel
theorem dX2_startText_26 : decode cX2_startText 26 = .ok (.putfield 78, 3) := by decide +kernel
theorem dX2_startText_29 : decode cX2_startText 29 = .ok (.aload_n 0, 1) := by decide +kernel
theorem dX2_startText_30 : decode cX2_startText 30 = .ok (.iconst 0, 1) := by decide +kernel
theorem dX2_startText_31 : decode cX2_startText 31 = .ok (.putfield 34, 3) := by decide +kernel
theorem dX2_startText_34 : decode cX2_startText 34 = .ok (.aload_n 0, 1) := by decide +kernel
theorem dX2_startText_35 : decode cX2_startText 35 = .ok (.iconst 0, 1) := by decide +kernel
theorem dX2_startText_36 : decode cX2_startText 36 = .ok (.putfield 37, 3) := by decide +kernel
theorem dX2_startText_39 : decode cX2_startText 39 = .ok (.return_, 1) := by decide +kernel
theorem dX2_refuse_0 : decode cX2_refuse 0 = .ok (.aload_n 0, 1) := by decide +kernel
theorem dX2_refuse_1 : decode cX2_refuse 1 = .ok (.iload_n 1, 1) := by decide +kernel
theorem dX2_refuse_2 : decode cX2_refuse 2 = .ok (.putfield 34, 3) := by decide +kernel
theorem dX2_refuse_5 : decode cX2_refuse 5 = .ok (.aload_n 0, 1) := by decide +kernel
theorem dX2_refuse_6 : decode cX2_refuse 6 = .ok (.aload_n 0, 1) := by decide +kernel
theorem dX2_refuse_7 : decode cX2_refuse 7 = .ok (.getfield 81, 3) := by decide +kernel
theorem dX2_refuse_10 : decode cX2_refuse 10 = .ok (.putfield 37, 3) := by decide +kernel
theorem dX2_refuse_13 : decode cX2_refuse 13 = .ok (.return_, 1) := by decide +kernel
theorem dX2_takeToken_0 : decode cX2_takeToken 0 = .ok (.aload_n 0, 1) := by decide +kernel
theorem dX2_takeToken_1 : decode cX2_takeToken 1 = .ok (.getfield 58, 3) := by decide +kernel
theorem dX2_takeToken_4 : decode cX2_takeToken 4 = .ok (.ifCond .ne 8, 3) := by decide +kernel
theorem dX2_takeToken_7 : decode cX2_takeToken 7 = .ok (.aload_n 0, 1) := by decide +kernel
theorem dX2_takeToken_8 : decode cX2_takeToken 8 = .ok (.invokevirtual 84, 3) := by decide +kernel
theorem dX2_takeToken_11 : decode cX2_takeToken 11 = .ok (.return_, 1) := by decide +kernel
theorem dX2_takeToken_12 : decode cX2_takeToken 12 = .ok (.aload_n 0, 1) := by decide +kernel
theorem dX2_takeToken_13 : decode cX2_takeToken 13 = .ok (.invokevirtual 87, 3) := by decide +kernel
theorem dX2_takeToken_16 : decode cX2_takeToken 16 = .ok (.istore_n 1, 1) := by decide +kernel
theorem dX2_takeToken_17 : decode cX2_takeToken 17 = .ok (.aload_n 0, 1) := by decide +kernel
theorem dX2_takeToken_18 : decode cX2_takeToken 18 = .ok (.getfield 90, 3) := by decide +kernel
theorem dX2_takeToken_21 : decode cX2_takeToken 21 = .ok (.iload_n 1, 1) := by decide +kernel
theorem dX2_takeToken_22 : decode cX2_takeToken 22 = .ok (.if_icmp .lt 21, 3) := by decide +kernel
theorem dX2_takeToken_25 : decode cX2_takeToken 25 = .ok (.aload_n 0, 1) := by decide +kernel
theorem dX2_takeToken_26 : decode cX2_takeToken 26 = .ok (.getfield 58, 3) := by decide +kernel
theorem dX2_takeToken_29 : decode cX2_takeToken 29 = .ok (.iconst 4, 1) := by decide +kernel
theorem dX2_takeToken_30 : decode cX2_takeToken 30 = .ok (.if_icmp .ne 20, 3) := by decide +kernel
theorem dX2_takeToken_33 : decode cX2_takeToken 33 = .ok (.aload_n 0, 1) := by decide +kernel
theorem dX2_takeToken_34 : decode cX2_takeToken 34 = .ok (.getfield 90, 3) := by decide +kernel
theorem dX2_takeToken_37 : decode cX2_takeToken 37 = .ok (.iload_n 1, 1) := by decide +kernel
theorem dX2_takeToken_38 : decode cX2_takeToken 38 = .ok (.iconst 1, 1) := by decide +kernel
theorem dX2_takeToken_39 : decode cX2_takeToken 39 = .ok (.iadd, 1) := by decide +kernel
theorem dX2_takeToken_40 : decode cX2_takeToken 40 = .ok (.if_icmp .ne 10, 3) := by decide +kernel
theorem dX2_takeToken_43 : decode cX2_takeToken 43 = .ok (.aload_n 0, 1) := by decide +kernel
theorem dX2_takeToken_44 : decode cX2_takeToken 44 = .ok (.invokevirtual 93, 3) := by decide +kernel
theorem dX2_takeToken_47 : decode cX2_takeToken 47 = .ok (.goto 39, 3) := by decide +kernel
theorem dX2_takeToken_50 : decode cX2_takeToken 50 = .ok (.aload_n 0, 1) := by decide +kernel
theorem dX2_takeToken_51 : decode cX2_takeToken 51 = .ok (.getfield 58, 3) := by decide +kernel
theorem dX2_takeToken_54 : decode cX2_takeToken 54 = .ok (.iconst 4, 1) := by decide +kernel
theorem dX2_takeToken_55 : decode cX2_takeToken 55 = .ok (.if_icmp .ne 18, 3) := by decide +kernel
theorem dX2_takeToken_58 : decode cX2_takeToken 58 = .ok (.aload_n 0, 1) := by decide +kernel
theorem dX2_takeToken_59 : decode cX2_takeToken 59 = .ok (.getfield 90, 3) := by decide +kernel
theorem dX2_takeToken_62 : decode cX2_takeToken 62 = .ok (.iload_n 1, 1) := by decide +kernel
theorem dX2_takeToken_63 : decode cX2_takeToken 63 = .ok (.if_icmp .ne 10, 3) := by decide +kernel
theorem dX2_takeToken_66 : decode cX2_takeToken 66 = .ok (.aload_n 0, 1) := by decide +kernel
theorem dX2_takeToken_67 : decode cX2_takeToken 67 = .ok (.invokevirtual 96, 3) := by decide +kernel
theorem dX2_takeToken_70 : decode cX2_takeToken 70 = .ok (.goto 16, 3) := by decide +kernel
theorem dX2_takeToken_73 : decode cX2_takeToken 73 = .ok (.aload_n 0, 1) := by decide +kernel
theorem dX2_takeToken_74 : decode cX2_takeToken 74 = .ok (.getfield 55, 3) := by decide +kernel
theorem dX2_takeToken_77 : decode cX2_takeToken 77 = .ok (.iconst 4, 1) := by decide +kernel
theorem dX2_takeToken_78 : decode cX2_takeToken 78 = .ok (.if_icmp .eq 8, 3) := by decide +kernel
theorem dX2_takeToken_81 : decode cX2_takeToken 81 = .ok (.aload_n 0, 1) := by decide +kernel
theorem dX2_takeToken_82 : decode cX2_takeToken 82 = .ok (.iconst 1, 1) := by decide +kernel
theorem dX2_takeToken_83 : decode cX2_takeToken 83 = .ok (.invokevirtual 99, 3) := by decide +kernel
theorem dX2_takeToken_86 : decode cX2_takeToken 86 = .ok (.aload_n 0, 1) := by decide +kernel
theorem dX2_takeToken_87 : decode cX2_takeToken 87 = .ok (.dup, 1) := by decide +kernel
theorem dX2_takeToken_88 : decode cX2_takeToken 88 = .ok (.getfield 90, 3) := by decide +kernel
theorem dX2_takeToken_91 : decode cX2_takeToken 91 = .ok (.iconst 1, 1) := by decide +kernel
theorem dX2_takeToken_92 : decode cX2_takeToken 92 = .ok (.iadd, 1) := by decide +kernel
theorem dX2_takeToken_93 : decode cX2_takeToken 93 = .ok (.putfield 90, 3) := by decide +kernel
theorem dX2_takeToken_96 : decode cX2_takeToken 96 = .ok (.return_, 1) := by decide +kernel
theorem dX2_numbersDue_0 : decode cX2_numbersDue 0 = .ok (.aload_n 0, 1) := by decide +kernel
theorem dX2_numbersDue_1 : decode cX2_numbersDue 1 = .ok (.getfield 58, 3) := by decide +kernel
theorem dX2_numbersDue_4 : decode cX2_numbersDue 4 = .ok (.lookupswitch 32 #[(1, 28), (2, 30)], 28) := by decide +kernel
theorem dX2_numbersDue_32 : decode cX2_numbersDue 32 = .ok (.iconst 2, 1) := by decide +kernel
theorem dX2_numbersDue_33 : decode cX2_numbersDue 33 = .ok (.ireturn, 1) := by decide +kernel
theorem dX2_numbersDue_34 : decode cX2_numbersDue 34 = .ok (.iconst 0, 1) := by decide +kernel
theorem dX2_numbersDue_35 : decode cX2_numbersDue 35 = .ok (.ireturn, 1) := by decide +kernel
theorem dX2_numbersDue_36 : decode cX2_numbersDue 36 = .ok (.aload_n 0, 1) := by decide +kernel
theorem dX2_numbersDue_37 : decode cX2_numbersDue 37 = .ok (.getfield 12, 3) := by decide +kernel
theorem dX2_numbersDue_40 : decode cX2_numbersDue 40 = .ok (.invokevirtual 103, 3) := by decide +kernel
theorem dX2_numbersDue_43 : decode cX2_numbersDue 43 = .ok (.ireturn, 1) := by decide +kernel
theorem dX2_openLine_0 : decode cX2_openLine 0 = .ok (.aload_n 0, 1) := by decide +kernel
theorem dX2_openLine_1 : decode cX2_openLine 1 = .ok (.iconst 0, 1) := by decide +kernel
theorem dX2_openLine_2 : decode cX2_openLine 2 = .ok (.putfield 90, 3) := by decide +kernel
theorem dX2_openLine_5 : decode cX2_openLine 5 = .ok (.aload_n 0, 1) := by decide +kernel
theorem dX2_openLine_6 : decode cX2_openLine 6 = .ok (.getfield 18, 3) := by decide +kernel
theorem dX2_openLine_9 : decode cX2_openLine 9 = .ok (.iconst 0, 1) := by decide +kernel
theorem dX2_openLine_10 : decode cX2_openLine 10 = .ok (.invokestatic 106, 3) := by decide +kernel
theorem dX2_openLine_13 : decode cX2_openLine 13 = .ok (.aload_n 0, 1) := by decide +kernel
theorem dX2_openLine_14 : decode cX2_openLine 14 = .ok (.getfield 30, 3) := by decide +kernel
theorem dX2_openLine_17 : decode cX2_openLine 17 = .ok (.ifCond .ne 18, 3) := by decide +kernel
theorem dX2_openLine_20 : decode cX2_openLine 20 = .ok (.aload_n 0, 1) := by decide +kernel
theorem dX2_openLine_21 : decode cX2_openLine 21 = .ok (.aload_n 0, 1) := by decide +kernel
theorem dX2_openLine_22 : decode cX2_openLine 22 = .ok (.ldc 112, 2) := by decide +kernel
theorem dX2_openLine_24 : decode cX2_openLine 24 = .ok (.invokevirtual 114, 3) := by decide +kernel
theorem dX2_openLine_27 : decode cX2_openLine 27 = .ok (.iconst 1, 1) := by decide +kernel
theorem dX2_openLine_28 : decode cX2_openLine 28 = .ok (.iconst 1, 1) := by decide +kernel
theorem dX2_openLine_29 : decode cX2_openLine 29 = .ok (.invokevirtual 118, 3) := by decide +kernel
theorem dX2_openLine_32 : decode cX2_openLine 32 = .ok (.goto 91, 3) := by decide +kernel
theorem dX2_openLine_35 : decode cX2_openLine 35 = .ok (.aload_n 0, 1) := by decide +kernel
theorem dX2_openLine_36 : decode cX2_openLine 36 = .ok (.ldc 122, 2) := by decide +kernel
theorem dX2_openLine_38 : decode cX2_openLine 38 = .ok (.invokevirtual 114, 3) := by decide +kernel
theorem dX2_openLine_41 : decode cX2_openLine 41 = .ok (.ifCond .eq 25, 3) := by decide +kernel
theorem dX2_openLine_44 : decode cX2_openLine 44 = .ok (.aload_n 0, 1) := by decide +kernel
theorem dX2_openLine_45 : decode cX2_openLine 45 = .ok (.iconst 1, 1) := by decide +kernel
theorem dX2_openLine_46 : decode cX2_openLine 46 = .ok (.iconst 2, 1) := by decide +kernel
theorem dX2_openLine_47 : decode cX2_openLine 47 = .ok (.aload_n 0, 1) := by decide +kernel
theorem dX2_openLine_48 : decode cX2_openLine 48 = .ok (.getfield 78, 3) := by decide +kernel
theorem dX2_openLine_51 : decode cX2_openLine 51 = .ok (.iconst 4, 1) := by decide +kernel
theorem dX2_openLine_52 : decode cX2_openLine 52 = .ok (.if_icmp .ge 7, 3) := by decide +kernel
theorem dX2_openLine_55 : decode cX2_openLine 55 = .ok (.iconst 1, 1) := by decide +kernel
theorem dX2_openLine_56 : decode cX2_openLine 56 = .ok (.goto 4, 3) := by decide +kernel
theorem dX2_openLine_59 : decode cX2_openLine 59 = .ok (.iconst 0, 1) := by decide +kernel
theorem dX2_openLine_60 : decode cX2_openLine 60 = .ok (.invokevirtual 118, 3) := by decide +kernel
theorem dX2_openLine_63 : decode cX2_openLine 63 = .ok (.goto 60, 3) := by decide +kernel
theorem dX2_openLine_66 : decode cX2_openLine 66 = .ok (.aload_n 0, 1) := by decide +kernel
theorem dX2_openLine_67 : decode cX2_openLine 67 = .ok (.ldc 124, 2) := by decide +kernel
theorem dX2_openLine_69 : decode cX2_openLine 69 = .ok (.invokevirtual 114, 3) := by decide +kernel
theorem dX2_openLine_72 : decode cX2_openLine 72 = .ok (.ifCond .eq 24, 3) := by decide +kernel
theorem dX2_openLine_75 : decode cX2_openLine 75 = .ok (.aload_n 0, 1) := by decide +kernel
theorem dX2_openLine_76 : decode cX2_openLine 76 = .ok (.aload_n 0, 1) := by decide +kernel
theorem dX2_openLine_77 : decode cX2_openLine 77 = .ok (.getfield 78, 3) := by decide +kernel
theorem dX2_openLine_80 : decode cX2_openLine 80 = .ok (.ifCond .le 7, 3) := by decide +kernel
theorem dX2_openLine_83 : decode cX2_openLine 83 = .ok (.iconst 1, 1) := by decide +kernel
theorem dX2_openLine_84 : decode cX2_openLine 84 = .ok (.goto 4, 3) := by decide +kernel
theorem dX2_openLine_87 : decode cX2_openLine 87 = .ok (.iconst 0, 1) := by decide +kernel
theorem dX2_openLine_88 : decode cX2_openLine 88 = .ok (.iconst 3, 1) := by decide +kernel
theorem dX2_openLine_89 : decode cX2_openLine 89 = .ok (.iconst 1, 1) := by decide +kernel
theorem dX2_openLine_90 : decode cX2_openLine 90 = .ok (.invokevirtual 118, 3) := by decide +kernel
theorem dX2_openLine_93 : decode cX2_openLine 93 = .ok (.goto 30, 3) := by decide +kernel
theorem dX2_openLine_96 : decode cX2_openLine 96 = .ok (.aload_n 0, 1) := by decide +kernel
theorem dX2_openLine_97 : decode cX2_openLine 97 = .ok (.aload_n 0, 1) := by decide +kernel
theorem dX2_openLine_98 : decode cX2_openLine 98 = .ok (.ldc 126, 2) := by decide +kernel
theorem dX2_openLine_100 : decode cX2_openLine 100 = .ok (.invokevirtual 114, 3) := by decide +kernel
theorem dX2_openLine_103 : decode cX2_openLine 103 = .ok (.iconst 4, 1) := by decide +kernel
theorem dX2_openLine_104 : decode cX2_openLine 104 = .ok (.aload_n 0, 1) := by decide +kernel
theorem dX2_openLine_105 : decode cX2_openLine 105 = .ok (.getfield 12, 3) := by decide +kernel
theorem dX2_openLine_108 : decode cX2_openLine 108 = .ok (.invokevirtual 128, 3) := by decide +kernel
theorem dX2_openLine_111 : decode cX2_openLine 111 = .ok (.iconst 3, 1) := by decide +kernel
theorem dX2_openLine_112 : decode cX2_openLine 112 = .ok (.if_icmp .ge 7, 3) := by decide +kernel
theorem dX2_openLine_115 : decode cX2_openLine 115 = .ok (.iconst 1, 1) := by decide +kernel
theorem dX2_openLine_116 : decode cX2_openLine 116 = .ok (.goto 4, 3) := by decide +kernel
theorem dX2_openLine_119 : decode cX2_openLine 119 = .ok (.iconst 0, 1) := by decide +kernel
theorem dX2_openLine_120 : decode cX2_openLine 120 = .ok (.invokevirtual 118, 3) := by decide +kernel
theorem dX2_openLine_123 : decode cX2_openLine 123 = .ok (.return_, 1) := by decide +kernel
theorem dX2_openIf_0 : decode cX2_openIf 0 = .ok (.iload_n 1, 1) := by decide +kernel
theorem dX2_openIf_1 : decode cX2_openIf 1 = .ok (.ifCond .ne 11, 3) := by decide +kernel
theorem dX2_openIf_4 : decode cX2_openIf 4 = .ok (.aload_n 0, 1) := by decide +kernel
theorem dX2_openIf_5 : decode cX2_openIf 5 = .ok (.iconst 1, 1) := by decide +kernel
theorem dX2_openIf_6 : decode cX2_openIf 6 = .ok (.invokevirtual 99, 3) := by decide +kernel
theorem dX2_openIf_9 : decode cX2_openIf 9 = .ok (.goto 20, 3) := by decide +kernel
theorem dX2_openIf_12 : decode cX2_openIf 12 = .ok (.iload_n 3, 1) := by decide +kernel
theorem dX2_openIf_13 : decode cX2_openIf 13 = .ok (.ifCond .ne 11, 3) := by decide +kernel
theorem dX2_openIf_16 : decode cX2_openIf 16 = .ok (.aload_n 0, 1) := by decide +kernel
theorem dX2_openIf_17 : decode cX2_openIf 17 = .ok (.iconst 3, 1) := by decide +kernel
theorem dX2_openIf_18 : decode cX2_openIf 18 = .ok (.invokevirtual 99, 3) := by decide +kernel
theorem dX2_openIf_21 : decode cX2_openIf 21 = .ok (.goto 8, 3) := by decide +kernel
theorem dX2_openIf_24 : decode cX2_openIf 24 = .ok (.aload_n 0, 1) := by decide +kernel
theorem dX2_openIf_25 : decode cX2_openIf 25 = .ok (.iload_n 2, 1) := by decide +kernel
theorem dX2_openIf_26 : decode cX2_openIf 26 = .ok (.putfield 58, 3) := by decide +kernel
theorem dX2_openIf_29 : decode cX2_openIf 29 = .ok (.return_, 1) := by decide +kernel
theorem dX2_takeNumber_0 : decode cX2_takeNumber 0 = .ok (.aload_n 0, 1) := by decide +kernel
theorem dX2_takeNumber_1 : decode cX2_takeNumber 1 = .ok (.getfield 55, 3) := by decide +kernel
theorem dX2_takeNumber_4 : decode cX2_takeNumber 4 = .ok (.iconst 3, 1) := by decide +kernel
theorem dX2_takeNumber_5 : decode cX2_takeNumber 5 = .ok (.if_icmp .eq 11, 3) := by decide +kernel
theorem dX2_takeNumber_8 : decode cX2_takeNumber 8 = .ok (.aload_n 0, 1) := by decide +kernel
theorem dX2_takeNumber_9 : decode cX2_takeNumber 9 = .ok (.iconst 1, 1) := by decide +kernel
theorem dX2_takeNumber_10 : decode cX2_takeNumber 10 = .ok (.invokevirtual 99, 3) := by decide +kernel
theorem dX2_takeNumber_13 : decode cX2_takeNumber 13 = .ok (.goto 72, 3) := by decide +kernel
theorem dX2_takeNumber_16 : decode cX2_takeNumber 16 = .ok (.aload_n 0, 1) := by decide +kernel
theorem dX2_takeNumber_17 : decode cX2_takeNumber 17 = .ok (.getfield 131, 3) := by decide +kernel
theorem dX2_takeNumber_20 : decode cX2_takeNumber 20 = .ok (.aload_n 0, 1) := by decide +kernel
theorem dX2_takeNumber_21 : decode cX2_takeNumber 21 = .ok (.invokevirtual 134, 3) := by decide +kernel
theorem dX2_takeNumber_24 : decode cX2_takeNumber 24 = .ok (.if_icmp .lt 14, 3) := by decide +kernel
theorem dX2_takeNumber_27 : decode cX2_takeNumber 27 = .ok (.aload_n 0, 1) := by decide +kernel
theorem dX2_takeNumber_28 : decode cX2_takeNumber 28 = .ok (.getfield 131, 3) := by decide +kernel
theorem dX2_takeNumber_31 : decode cX2_takeNumber 31 = .ok (.aload_n 0, 1) := by decide +kernel
theorem dX2_takeNumber_32 : decode cX2_takeNumber 32 = .ok (.invokevirtual 137, 3) := by decide +kernel
theorem dX2_takeNumber_35 : decode cX2_takeNumber 35 = .ok (.if_icmp .le 11, 3) := by decide +kernel
theorem dX2_takeNumber_38 : decode cX2_takeNumber 38 = .ok (.aload_n 0, 1) := by decide +kernel
theorem dX2_takeNumber_39 : decode cX2_takeNumber 39 = .ok (.iconst 2, 1) := by decide +kernel
theorem dX2_takeNumber_40 : decode cX2_takeNumber 40 = .ok (.invokevirtual 99, 3) := by decide +kernel
theorem dX2_takeNumber_43 : decode cX2_takeNumber 43 = .ok (.goto 42, 3) := by decide +kernel
theorem dX2_takeNumber_46 : decode cX2_takeNumber 46 = .ok (.aload_n 0, 1) := by decide +kernel
theorem dX2_takeNumber_47 : decode cX2_takeNumber 47 = .ok (.getfield 90, 3) := by decide +kernel
theorem dX2_takeNumber_50 : decode cX2_takeNumber 50 = .ok (.ifCond .lt 35, 3) := by decide +kernel
theorem dX2_takeNumber_53 : decode cX2_takeNumber 53 = .ok (.aload_n 0, 1) := by decide +kernel
theorem dX2_takeNumber_54 : decode cX2_takeNumber 54 = .ok (.getfield 90, 3) := by decide +kernel
theorem dX2_takeNumber_57 : decode cX2_takeNumber 57 = .ok (.aload_n 0, 1) := by decide +kernel
theorem dX2_takeNumber_58 : decode cX2_takeNumber 58 = .ok (.invokevirtual 87, 3) := by decide +kernel
theorem dX2_takeNumber_61 : decode cX2_takeNumber 61 = .ok (.if_icmp .ge 24, 3) := by decide +kernel
theorem dX2_takeNumber_64 : decode cX2_takeNumber 64 = .ok (.aload_n 0, 1) := by decide +kernel
theorem dX2_takeNumber_65 : decode cX2_takeNumber 65 = .ok (.getfield 90, 3) := by decide +kernel
theorem dX2_takeNumber_68 : decode cX2_takeNumber 68 = .ok (.iconst 3, 1) := by decide +kernel
theorem dX2_takeNumber_69 : decode cX2_takeNumber 69 = .ok (.if_icmp .ge 16, 3) := by decide +kernel
theorem dX2_takeNumber_72 : decode cX2_takeNumber 72 = .ok (.aload_n 0, 1) := by decide +kernel
theorem dX2_takeNumber_73 : decode cX2_takeNumber 73 = .ok (.getfield 18, 3) := by decide +kernel
theorem dX2_takeNumber_76 : decode cX2_takeNumber 76 = .ok (.aload_n 0, 1) := by decide +kernel
theorem dX2_takeNumber_77 : decode cX2_takeNumber 77 = .ok (.getfield 90, 3) := by decide +kernel
theorem dX2_takeNumber_80 : decode cX2_takeNumber 80 = .ok (.aload_n 0, 1) := by decide +kernel
theorem dX2_takeNumber_81 : decode cX2_takeNumber 81 = .ok (.getfield 131, 3) := by decide +kernel
theorem dX2_takeNumber_84 : decode cX2_takeNumber 84 = .ok (.iastore, 1) := by decide +kernel
theorem dX2_takeNumber_85 : decode cX2_takeNumber 85 = .ok (.return_, 1) := by decide +kernel
theorem dX2_leastNumber_0 : decode cX2_leastNumber 0 = .ok (.aload_n 0, 1) := by decide +kernel
theorem dX2_leastNumber_1 : decode cX2_leastNumber 1 = .ok (.getfield 58, 3) := by decide +kernel
theorem dX2_leastNumber_4 : decode cX2_leastNumber 4 = .ok (.iconst 1, 1) := by decide +kernel
theorem dX2_leastNumber_5 : decode cX2_leastNumber 5 = .ok (.if_icmp .eq 5, 3) := by decide +kernel
theorem dX2_leastNumber_8 : decode cX2_leastNumber 8 = .ok (.iconst 0, 1) := by decide +kernel
theorem dX2_leastNumber_9 : decode cX2_leastNumber 9 = .ok (.ireturn, 1) := by decide +kernel
theorem dX2_leastNumber_10 : decode cX2_leastNumber 10 = .ok (.aload_n 0, 1) := by decide +kernel
theorem dX2_leastNumber_11 : decode cX2_leastNumber 11 = .ok (.getfield 90, 3) := by decide +kernel
theorem dX2_leastNumber_14 : decode cX2_leastNumber 14 = .ok (.ifCond .ne 7, 3) := by decide +kernel
theorem dX2_leastNumber_17 : decode cX2_leastNumber 17 = .ok (.iconst 2, 1) := by decide +kernel
theorem dX2_leastNumber_18 : decode cX2_leastNumber 18 = .ok (.goto 4, 3) := by decide +kernel
theorem dX2_leastNumber_21 : decode cX2_leastNumber 21 = .ok (.iconst 1, 1) := by decide +kernel
theorem dX2_leastNumber_22 : decode cX2_leastNumber 22 = .ok (.ireturn, 1) := by decide +kernel
theorem dX2_mostNumber_0 : decode cX2_mostNumber 0 = .ok (.aload_n 0, 1) := by decide +kernel
theorem dX2_mostNumber_1 : decode cX2_mostNumber 1 = .ok (.getfield 58, 3) := by decide +kernel
theorem dX2_mostNumber_4 : decode cX2_mostNumber 4 = .ok (.iconst 1, 1) := by decide +kernel
theorem dX2_mostNumber_5 : decode cX2_mostNumber 5 = .ok (.if_icmp .eq 13, 3) := by decide +kernel
theorem dX2_mostNumber_8 : decode cX2_mostNumber 8 = .ok (.aload_n 0, 1) := by decide +kernel
theorem dX2_mostNumber_9 : decode cX2_mostNumber 9 = .ok (.getfield 12, 3) := by decide +kernel
theorem dX2_mostNumber_12 : decode cX2_mostNumber 12 = .ok (.invokevirtual 140, 3) := by decide +kernel
theorem dX2_mostNumber_15 : decode cX2_mostNumber 15 = .ok (.iconst 1, 1) := by decide +kernel
theorem dX2_mostNumber_16 : decode cX2_mostNumber 16 = .ok (.isub, 1) := by decide +kernel
theorem dX2_mostNumber_17 : decode cX2_mostNumber 17 = .ok (.ireturn, 1) := by decide +kernel
theorem dX2_mostNumber_18 : decode cX2_mostNumber 18 = .ok (.aload_n 0, 1) := by decide +kernel
theorem dX2_mostNumber_19 : decode cX2_mostNumber 19 = .ok (.getfield 90, 3) := by decide +kernel
theorem dX2_mostNumber_22 : decode cX2_mostNumber 22 = .ok (.ifCond .ne 8, 3) := by decide +kernel
theorem dX2_mostNumber_25 : decode cX2_mostNumber 25 = .ok (.bipush 30, 2) := by decide +kernel
theorem dX2_mostNumber_27 : decode cX2_mostNumber 27 = .ok (.goto 4, 3) := by decide +kernel
theorem dX2_mostNumber_30 : decode cX2_mostNumber 30 = .ok (.iconst 3, 1) := by decide +kernel
theorem dX2_mostNumber_31 : decode cX2_mostNumber 31 = .ok (.ireturn, 1) := by decide +kernel
theorem dX2_takeIs_0 : decode cX2_takeIs 0 = .ok (.aload_n 0, 1) := by decide +kernel
theorem dX2_takeIs_1 : decode cX2_takeIs 1 = .ok (.ldc 143, 2) := by decide +kernel
theorem dX2_takeIs_3 : decode cX2_takeIs 3 = .ok (.invokevirtual 114, 3) := by decide +kernel
theorem dX2_takeIs_6 : decode cX2_takeIs 6 = .ok (.ifCond .ne 8, 3) := by decide +kernel
theorem dX2_takeIs_9 : decode cX2_takeIs 9 = .ok (.aload_n 0, 1) := by decide +kernel
theorem dX2_takeIs_10 : decode cX2_takeIs 10 = .ok (.iconst 1, 1) := by decide +kernel
theorem dX2_takeIs_11 : decode cX2_takeIs 11 = .ok (.invokevirtual 99, 3) := by decide +kernel
theorem dX2_takeIs_14 : decode cX2_takeIs 14 = .ok (.return_, 1) := by decide +kernel
theorem dX2_finishLine_0 : decode cX2_finishLine 0 = .ok (.aload_n 0, 1) := by decide +kernel
theorem dX2_finishLine_1 : decode cX2_finishLine 1 = .ok (.getfield 12, 3) := by decide +kernel
theorem dX2_finishLine_4 : decode cX2_finishLine 4 = .ok (.invokevirtual 128, 3) := by decide +kernel
theorem dX2_finishLine_7 : decode cX2_finishLine 7 = .ok (.istore_n 1, 1) := by decide +kernel
theorem dX2_finishLine_8 : decode cX2_finishLine 8 = .ok (.aload_n 0, 1) := by decide +kernel
theorem dX2_finishLine_9 : decode cX2_finishLine 9 = .ok (.getfield 58, 3) := by decide +kernel
theorem dX2_finishLine_12 : decode cX2_finishLine 12 = .ok (.tableswitch 87 1 3 #[28, 50, 63], 28) := by decide +kernel
theorem dX2_finishLine_40 : decode cX2_finishLine 40 = .ok (.aload_n 0, 1) := by decide +kernel
theorem dX2_finishLine_41 : decode cX2_finishLine 41 = .ok (.getfield 12, 3) := by decide +kernel
theorem dX2_finishLine_44 : decode cX2_finishLine 44 = .ok (.aload_n 0, 1) := by decide +kernel
theorem dX2_finishLine_45 : decode cX2_finishLine 45 = .ok (.getfield 18, 3) := by decide +kernel
theorem dX2_finishLine_48 : decode cX2_finishLine 48 = .ok (.iconst 0, 1) := by decide +kernel
theorem dX2_finishLine_49 : decode cX2_finishLine 49 = .ok (.iaload, 1) := by decide +kernel
theorem dX2_finishLine_50 : decode cX2_finishLine 50 = .ok (.aload_n 0, 1) := by decide +kernel
theorem dX2_finishLine_51 : decode cX2_finishLine 51 = .ok (.getfield 18, 3) := by decide +kernel
theorem dX2_finishLine_54 : decode cX2_finishLine 54 = .ok (.iconst 1, 1) := by decide +kernel
theorem dX2_finishLine_55 : decode cX2_finishLine 55 = .ok (.iaload, 1) := by decide +kernel
theorem dX2_finishLine_56 : decode cX2_finishLine 56 = .ok (.invokevirtual 71, 3) := by decide +kernel
theorem dX2_finishLine_59 : decode cX2_finishLine 59 = .ok (.goto 66, 3) := by decide +kernel
theorem dX2_finishLine_62 : decode cX2_finishLine 62 = .ok (.aload_n 0, 1) := by decide +kernel
theorem dX2_finishLine_63 : decode cX2_finishLine 63 = .ok (.dup, 1) := by decide +kernel
theorem dX2_finishLine_64 : decode cX2_finishLine 64 = .ok (.getfield 78, 3) := by decide +kernel
theorem dX2_finishLine_67 : decode cX2_finishLine 67 = .ok (.iconst 1, 1) := by decide +kernel
theorem dX2_finishLine_68 : decode cX2_finishLine 68 = .ok (.iadd, 1) := by decide +kernel
theorem dX2_finishLine_69 : decode cX2_finishLine 69 = .ok (.putfield 78, 3) := by decide +kernel
theorem dX2_finishLine_72 : decode cX2_finishLine 72 = .ok (.goto 53, 3) := by decide +kernel
theorem dX2_finishLine_75 : decode cX2_finishLine 75 = .ok (.aload_n 0, 1) := by decide +kernel
theorem dX2_finishLine_76 : decode cX2_finishLine 76 = .ok (.getfield 26, 3) := by decide +kernel
theorem dX2_finishLine_79 : decode cX2_finishLine 79 = .ok (.aload_n 0, 1) := by decide +kernel
theorem dX2_finishLine_80 : decode cX2_finishLine 80 = .ok (.getfield 12, 3) := by decide +kernel
theorem dX2_finishLine_83 : decode cX2_finishLine 83 = .ok (.aload_n 0, 1) := by decide +kernel
theorem dX2_finishLine_84 : decode cX2_finishLine 84 = .ok (.getfield 78, 3) := by decide +kernel
theorem dX2_finishLine_87 : decode cX2_finishLine 87 = .ok (.iconst 1, 1) := by decide +kernel
theorem dX2_finishLine_88 : decode cX2_finishLine 88 = .ok (.isub, 1) := by decide +kernel
theorem dX2_finishLine_89 : decode cX2_finishLine 89 = .ok (.aload_n 0, 1) := by decide +kernel
theorem dX2_finishLine_90 : decode cX2_finishLine 90 = .ok (.getfield 18, 3) := by decide +kernel
theorem dX2_finishLine_93 : decode cX2_finishLine 93 = .ok (.invokevirtual 145, 3) := by decide +kernel
theorem dX2_finishLine_96 : decode cX2_finishLine 96 = .ok (.goto 29, 3) := by decide +kernel
theorem dX2_finishLine_99 : decode cX2_finishLine 99 = .ok (.aload_n 0, 1) := by decide +kernel
theorem dX2_finishLine_100 : decode cX2_finishLine 100 = .ok (.getfield 12, 3) := by decide +kernel
theorem dX2_finishLine_103 : decode cX2_finishLine 103 = .ok (.iload_n 1, 1) := by decide +kernel
theorem dX2_finishLine_104 : decode cX2_finishLine 104 = .ok (.aload_n 0, 1) := by decide +kernel
theorem dX2_finishLine_105 : decode cX2_finishLine 105 = .ok (.getfield 18, 3) := by decide +kernel
theorem dX2_finishLine_108 : decode cX2_finishLine 108 = .ok (.aload_n 0, 1) := by decide +kernel
theorem dX2_finishLine_109 : decode cX2_finishLine 109 = .ok (.getfield 131, 3) := by decide +kernel
theorem dX2_finishLine_112 : decode cX2_finishLine 112 = .ok (.invokevirtual 151, 3) := by decide +kernel
theorem dX2_finishLine_115 : decode cX2_finishLine 115 = .ok (.aload_n 0, 1) := by decide +kernel
theorem dX2_finishLine_116 : decode cX2_finishLine 116 = .ok (.getfield 12, 3) := by decide +kernel
theorem dX2_finishLine_119 : decode cX2_finishLine 119 = .ok (.iload_n 1, 1) := by decide +kernel
theorem dX2_finishLine_120 : decode cX2_finishLine 120 = .ok (.iconst 1, 1) := by decide +kernel
theorem dX2_finishLine_121 : decode cX2_finishLine 121 = .ok (.iadd, 1) := by decide +kernel
theorem dX2_finishLine_122 : decode cX2_finishLine 122 = .ok (.invokevirtual 155, 3) := by decide +kernel
theorem dX2_finishLine_125 : decode cX2_finishLine 125 = .ok (.aload_n 0, 1) := by decide +kernel
theorem dX2_finishLine_126 : decode cX2_finishLine 126 = .ok (.iconst 0, 1) := by decide +kernel
theorem dX2_finishLine_127 : decode cX2_finishLine 127 = .ok (.putfield 58, 3) := by decide +kernel
theorem dX2_finishLine_130 : decode cX2_finishLine 130 = .ok (.aload_n 0, 1) := by decide +kernel
theorem dX2_finishLine_131 : decode cX2_finishLine 131 = .ok (.dup, 1) := by decide +kernel
theorem dX2_finishLine_132 : decode cX2_finishLine 132 = .ok (.getfield 30, 3) := by decide +kernel
theorem dX2_finishLine_135 : decode cX2_finishLine 135 = .ok (.iconst 1, 1) := by decide +kernel
theorem dX2_finishLine_136 : decode cX2_finishLine 136 = .ok (.iadd, 1) := by decide +kernel
theorem dX2_finishLine_137 : decode cX2_finishLine 137 = .ok (.putfield 30, 3) := by decide +kernel
theorem dX2_finishLine_140 : decode cX2_finishLine 140 = .ok (.return_, 1) := by decide +kernel
theorem dX2_scan_0 : decode cX2_scan 0 = .ok (.aload_n 0, 1) := by decide +kernel
theorem dX2_scan_1 : decode cX2_scan 1 = .ok (.getfield 22, 3) := by decide +kernel
theorem dX2_scan_4 : decode cX2_scan 4 = .ok (.invokevirtual 61, 3) := by decide +kernel
theorem dX2_scan_7 : decode cX2_scan 7 = .ok (.sipush 500, 3) := by decide +kernel
theorem dX2_scan_10 : decode cX2_scan 10 = .ok (.invokestatic 158, 3) := by decide +kernel
theorem dX2_scan_13 : decode cX2_scan 13 = .ok (.istore_n 1, 1) := by decide +kernel
theorem dX2_scan_14 : decode cX2_scan 14 = .ok (.aload_n 0, 1) := by decide +kernel
theorem dX2_scan_15 : decode cX2_scan 15 = .ok (.getfield 75, 3) := by decide +kernel
theorem dX2_scan_18 : decode cX2_scan 18 = .ok (.iload_n 1, 1) := by decide +kernel
theorem dX2_scan_19 : decode cX2_scan 19 = .ok (.if_icmp .ge 33, 3) := by decide +kernel
theorem dX2_scan_22 : decode cX2_scan 22 = .ok (.aload_n 0, 1) := by decide +kernel
theorem dX2_scan_23 : decode cX2_scan 23 = .ok (.getfield 22, 3) := by decide +kernel
theorem dX2_scan_26 : decode cX2_scan 26 = .ok (.aload_n 0, 1) := by decide +kernel
theorem dX2_scan_27 : decode cX2_scan 27 = .ok (.getfield 75, 3) := by decide +kernel
theorem dX2_scan_30 : decode cX2_scan 30 = .ok (.invokevirtual 164, 3) := by decide +kernel
theorem dX2_scan_33 : decode cX2_scan 33 = .ok (.invokestatic 168, 3) := by decide +kernel
theorem dX2_scan_36 : decode cX2_scan 36 = .ok (.ifCond .eq 16, 3) := by decide +kernel
theorem dX2_scan_39 : decode cX2_scan 39 = .ok (.aload_n 0, 1) := by decide +kernel
theorem dX2_scan_40 : decode cX2_scan 40 = .ok (.dup, 1) := by decide +kernel
theorem dX2_scan_41 : decode cX2_scan 41 = .ok (.getfield 75, 3) := by decide +kernel
theorem dX2_scan_44 : decode cX2_scan 44 = .ok (.iconst 1, 1) := by decide +kernel
theorem dX2_scan_45 : decode cX2_scan 45 = .ok (.iadd, 1) := by decide +kernel
theorem dX2_scan_46 : decode cX2_scan 46 = .ok (.putfield 75, 3) := by decide +kernel
theorem dX2_scan_49 : decode cX2_scan 49 = .ok (.goto (-35), 3) := by decide +kernel
theorem dX2_scan_52 : decode cX2_scan 52 = .ok (.aload_n 0, 1) := by decide +kernel
theorem dX2_scan_53 : decode cX2_scan 53 = .ok (.getfield 75, 3) := by decide +kernel
theorem dX2_scan_56 : decode cX2_scan 56 = .ok (.iload_n 1, 1) := by decide +kernel
theorem dX2_scan_57 : decode cX2_scan 57 = .ok (.if_icmp .lt 14, 3) := by decide +kernel
theorem dX2_scan_60 : decode cX2_scan 60 = .ok (.aload_n 0, 1) := by decide +kernel
theorem dX2_scan_61 : decode cX2_scan 61 = .ok (.iconst 1, 1) := by decide +kernel
theorem dX2_scan_62 : decode cX2_scan 62 = .ok (.putfield 55, 3) := by decide +kernel
theorem dX2_scan_65 : decode cX2_scan 65 = .ok (.aload_n 0, 1) := by decide +kernel
theorem dX2_scan_66 : decode cX2_scan 66 = .ok (.iload_n 1, 1) := by decide +kernel
theorem dX2_scan_67 : decode cX2_scan 67 = .ok (.putfield 81, 3) := by decide +kernel
theorem dX2_scan_70 : decode cX2_scan 70 = .ok (.return_, 1) := by decide +kernel
theorem dX2_scan_71 : decode cX2_scan 71 = .ok (.aload_n 0, 1) := by decide +kernel
theorem dX2_scan_72 : decode cX2_scan 72 = .ok (.aload_n 0, 1) := by decide +kernel
theorem dX2_scan_73 : decode cX2_scan 73 = .ok (.getfield 75, 3) := by decide +kernel
theorem dX2_scan_76 : decode cX2_scan 76 = .ok (.putfield 81, 3) := by decide +kernel
theorem dX2_scan_79 : decode cX2_scan 79 = .ok (.aload_n 0, 1) := by decide +kernel
theorem dX2_scan_80 : decode cX2_scan 80 = .ok (.getfield 22, 3) := by decide +kernel
theorem dX2_scan_83 : decode cX2_scan 83 = .ok (.aload_n 0, 1) := by decide +kernel
theorem dX2_scan_84 : decode cX2_scan 84 = .ok (.getfield 81, 3) := by decide +kernel
theorem dX2_scan_87 : decode cX2_scan 87 = .ok (.invokevirtual 164, 3) := by decide +kernel
theorem dX2_scan_90 : decode cX2_scan 90 = .ok (.invokestatic 172, 3) := by decide +kernel
theorem dX2_scan_93 : decode cX2_scan 93 = .ok (.ifCond .ne 20, 3) := by decide +kernel
theorem dX2_scan_96 : decode cX2_scan 96 = .ok (.aload_n 0, 1) := by decide +kernel
theorem dX2_scan_97 : decode cX2_scan 97 = .ok (.getfield 22, 3) := by decide +kernel
theorem dX2_scan_100 : decode cX2_scan 100 = .ok (.aload_n 0, 1) := by decide +kernel
theorem dX2_scan_101 : decode cX2_scan 101 = .ok (.getfield 81, 3) := by decide +kernel
theorem dX2_scan_104 : decode cX2_scan 104 = .ok (.invokevirtual 164, 3) := by decide +kernel
theorem dX2_scan_107 : decode cX2_scan 107 = .ok (.invokestatic 175, 3) := by decide +kernel
theorem dX2_scan_110 : decode cX2_scan 110 = .ok (.ifCond .eq 10, 3) := by decide +kernel
theorem dX2_scan_113 : decode cX2_scan 113 = .ok (.aload_n 0, 1) := by decide +kernel
theorem dX2_scan_114 : decode cX2_scan 114 = .ok (.invokevirtual 178, 3) := by decide +kernel
theorem dX2_scan_117 : decode cX2_scan 117 = .ok (.goto 38, 3) := by decide +kernel
theorem dX2_scan_120 : decode cX2_scan 120 = .ok (.aload_n 0, 1) := by decide +kernel
theorem dX2_scan_121 : decode cX2_scan 121 = .ok (.aload_n 0, 1) := by decide +kernel
theorem dX2_scan_122 : decode cX2_scan 122 = .ok (.getfield 22, 3) := by decide +kernel
theorem dX2_scan_125 : decode cX2_scan 125 = .ok (.aload_n 0, 1) := by decide +kernel
theorem dX2_scan_126 : decode cX2_scan 126 = .ok (.getfield 81, 3) := by decide +kernel
theorem dX2_scan_129 : decode cX2_scan 129 = .ok (.invokevirtual 164, 3) := by decide +kernel
theorem dX2_scan_132 : decode cX2_scan 132 = .ok (.bipush 59, 2) := by decide +kernel
theorem dX2_scan_134 : decode cX2_scan 134 = .ok (.if_icmp .ne 7, 3) := by decide +kernel
theorem dX2_scan_137 : decode cX2_scan 137 = .ok (.iconst 4, 1) := by decide +kernel
theorem dX2_scan_138 : decode cX2_scan 138 = .ok (.goto 4, 3) := by decide +kernel
theorem dX2_scan_141 : decode cX2_scan 141 = .ok (.iconst 0, 1) := by decide +kernel
theorem dX2_scan_142 : decode cX2_scan 142 = .ok (.putfield 55, 3) := by decide +kernel
theorem dX2_scan_145 : decode cX2_scan 145 = .ok (.aload_n 0, 1) := by decide +kernel
theorem dX2_scan_146 : decode cX2_scan 146 = .ok (.dup, 1) := by decide +kernel
theorem dX2_scan_147 : decode cX2_scan 147 = .ok (.getfield 75, 3) := by decide +kernel
theorem dX2_scan_150 : decode cX2_scan 150 = .ok (.iconst 1, 1) := by decide +kernel
theorem dX2_scan_151 : decode cX2_scan 151 = .ok (.iadd, 1) := by decide +kernel
theorem dX2_scan_152 : decode cX2_scan 152 = .ok (.putfield 75, 3) := by decide +kernel
theorem dX2_scan_155 : decode cX2_scan 155 = .ok (.return_, 1) := by decide +kernel
theorem dX2_scanRun_0 : decode cX2_scanRun 0 = .ok (.iconst 0, 1) := by decide +kernel
theorem dX2_scanRun_1 : decode cX2_scanRun 1 = .ok (.istore_n 1, 1) := by decide +kernel
theorem dX2_scanRun_2 : decode cX2_scanRun 2 = .ok (.iconst 0, 1) := by decide +kernel
theorem dX2_scanRun_3 : decode cX2_scanRun 3 = .ok (.istore_n 2, 1) := by decide +kernel
theorem dX2_scanRun_4 : decode cX2_scanRun 4 = .ok (.iconst 0, 1) := by decide +kernel
theorem dX2_scanRun_5 : decode cX2_scanRun 5 = .ok (.istore_n 3, 1) := by decide +kernel
theorem dX2_scanRun_6 : decode cX2_scanRun 6 = .ok (.aload_n 0, 1) := by decide +kernel
theorem dX2_scanRun_7 : decode cX2_scanRun 7 = .ok (.getfield 75, 3) := by decide +kernel
theorem dX2_scanRun_10 : decode cX2_scanRun 10 = .ok (.aload_n 0, 1) := by decide +kernel
theorem dX2_scanRun_11 : decode cX2_scanRun 11 = .ok (.getfield 22, 3) := by decide +kernel
theorem dX2_scanRun_14 : decode cX2_scanRun 14 = .ok (.invokevirtual 61, 3) := by decide +kernel
theorem dX2_scanRun_17 : decode cX2_scanRun 17 = .ok (.if_icmp .ge 105, 3) := by decide +kernel
theorem dX2_scanRun_20 : decode cX2_scanRun 20 = .ok (.aload_n 0, 1) := by decide +kernel
theorem dX2_scanRun_21 : decode cX2_scanRun 21 = .ok (.getfield 22, 3) := by decide +kernel
theorem dX2_scanRun_24 : decode cX2_scanRun 24 = .ok (.aload_n 0, 1) := by decide +kernel
theorem dX2_scanRun_25 : decode cX2_scanRun 25 = .ok (.getfield 75, 3) := by decide +kernel
theorem dX2_scanRun_28 : decode cX2_scanRun 28 = .ok (.invokevirtual 164, 3) := by decide +kernel
theorem dX2_scanRun_31 : decode cX2_scanRun 31 = .ok (.invokestatic 172, 3) := by decide +kernel
theorem dX2_scanRun_34 : decode cX2_scanRun 34 = .ok (.ifCond .ne 20, 3) := by decide +kernel
theorem dX2_scanRun_37 : decode cX2_scanRun 37 = .ok (.aload_n 0, 1) := by decide +kernel
theorem dX2_scanRun_38 : decode cX2_scanRun 38 = .ok (.getfield 22, 3) := by decide +kernel
theorem dX2_scanRun_41 : decode cX2_scanRun 41 = .ok (.aload_n 0, 1) := by decide +kernel
theorem dX2_scanRun_42 : decode cX2_scanRun 42 = .ok (.getfield 75, 3) := by decide +kernel
theorem dX2_scanRun_45 : decode cX2_scanRun 45 = .ok (.invokevirtual 164, 3) := by decide +kernel
theorem dX2_scanRun_48 : decode cX2_scanRun 48 = .ok (.invokestatic 175, 3) := by decide +kernel
theorem dX2_scanRun_51 : decode cX2_scanRun 51 = .ok (.ifCond .eq 71, 3) := by decide +kernel
theorem dX2_scanRun_54 : decode cX2_scanRun 54 = .ok (.aload_n 0, 1) := by decide +kernel
theorem dX2_scanRun_55 : decode cX2_scanRun 55 = .ok (.getfield 22, 3) := by decide +kernel
theorem dX2_scanRun_58 : decode cX2_scanRun 58 = .ok (.aload_n 0, 1) := by decide +kernel
theorem dX2_scanRun_59 : decode cX2_scanRun 59 = .ok (.getfield 75, 3) := by decide +kernel
theorem dX2_scanRun_62 : decode cX2_scanRun 62 = .ok (.invokevirtual 164, 3) := by decide +kernel
theorem dX2_scanRun_65 : decode cX2_scanRun 65 = .ok (.invokestatic 172, 3) := by decide +kernel
theorem dX2_scanRun_68 : decode cX2_scanRun 68 = .ok (.ifCond .eq 9, 3) := by decide +kernel
theorem dX2_scanRun_71 : decode cX2_scanRun 71 = .ok (.iinc 1 1, 3) := by decide +kernel
theorem dX2_scanRun_74 : decode cX2_scanRun 74 = .ok (.goto 35, 3) := by decide +kernel
theorem dX2_scanRun_77 : decode cX2_scanRun 77 = .ok (.iinc 2 1, 3) := by decide +kernel
theorem dX2_scanRun_80 : decode cX2_scanRun 80 = .ok (.iload_n 2, 1) := by decide +kernel
theorem dX2_scanRun_81 : decode cX2_scanRun 81 = .ok (.iconst 2, 1) := by decide +kernel
theorem dX2_scanRun_82 : decode cX2_scanRun 82 = .ok (.if_icmp .gt 25, 3) := by decide +kernel
theorem dX2_scanRun_85 : decode cX2_scanRun 85 = .ok (.bipush 10, 2) := by decide +kernel
theorem dX2_scanRun_87 : decode cX2_scanRun 87 = .ok (.iload_n 3, 1) := by decide +kernel
theorem dX2_scanRun_88 : decode cX2_scanRun 88 = .ok (.imul, 1) := by decide +kernel
theorem dX2_scanRun_89 : decode cX2_scanRun 89 = .ok (.aload_n 0, 1) := by decide +kernel
theorem dX2_scanRun_90 : decode cX2_scanRun 90 = .ok (.getfield 22, 3) := by decide +kernel
theorem dX2_scanRun_93 : decode cX2_scanRun 93 = .ok (.aload_n 0, 1) := by decide +kernel
theorem dX2_scanRun_94 : decode cX2_scanRun 94 = .ok (.getfield 75, 3) := by decide +kernel
theorem dX2_scanRun_97 : decode cX2_scanRun 97 = .ok (.invokevirtual 164, 3) := by decide +kernel
theorem dX2_scanRun_100 : decode cX2_scanRun 100 = .ok (.iadd, 1) := by decide +kernel
theorem dX2_scanRun_101 : decode cX2_scanRun 101 = .ok (.bipush 48, 2) := by decide +kernel
theorem dX2_scanRun_103 : decode cX2_scanRun 103 = .ok (.isub, 1) := by decide +kernel
theorem dX2_scanRun_104 : decode cX2_scanRun 104 = .ok (.goto 4, 3) := by decide +kernel
theorem dX2_scanRun_107 : decode cX2_scanRun 107 = .ok (.iload_n 3, 1) := by decide +kernel
theorem dX2_scanRun_108 : decode cX2_scanRun 108 = .ok (.istore_n 3, 1) := by decide +kernel
theorem dX2_scanRun_109 : decode cX2_scanRun 109 = .ok (.aload_n 0, 1) := by decide +kernel
theorem dX2_scanRun_110 : decode cX2_scanRun 110 = .ok (.dup, 1) := by decide +kernel
theorem dX2_scanRun_111 : decode cX2_scanRun 111 = .ok (.getfield 75, 3) := by decide +kernel
theorem dX2_scanRun_114 : decode cX2_scanRun 114 = .ok (.iconst 1, 1) := by decide +kernel
theorem dX2_scanRun_115 : decode cX2_scanRun 115 = .ok (.iadd, 1) := by decide +kernel
theorem dX2_scanRun_116 : decode cX2_scanRun 116 = .ok (.putfield 75, 3) := by decide +kernel
theorem dX2_scanRun_119 : decode cX2_scanRun 119 = .ok (.goto (-113), 3) := by decide +kernel
theorem dX2_scanRun_122 : decode cX2_scanRun 122 = .ok (.iload_n 2, 1) := by decide +kernel
theorem dX2_scanRun_123 : decode cX2_scanRun 123 = .ok (.ifCond .ne 11, 3) := by decide +kernel
theorem dX2_scanRun_126 : decode cX2_scanRun 126 = .ok (.aload_n 0, 1) := by decide +kernel
theorem dX2_scanRun_127 : decode cX2_scanRun 127 = .ok (.iconst 2, 1) := by decide +kernel
theorem dX2_scanRun_128 : decode cX2_scanRun 128 = .ok (.putfield 55, 3) := by decide +kernel
theorem dX2_scanRun_131 : decode cX2_scanRun 131 = .ok (.goto 30, 3) := by decide +kernel
theorem dX2_scanRun_134 : decode cX2_scanRun 134 = .ok (.iload_n 1, 1) := by decide +kernel
theorem dX2_scanRun_135 : decode cX2_scanRun 135 = .ok (.ifCond .ne 21, 3) := by decide +kernel
theorem dX2_scanRun_138 : decode cX2_scanRun 138 = .ok (.iload_n 2, 1) := by decide +kernel
theorem dX2_scanRun_139 : decode cX2_scanRun 139 = .ok (.iconst 2, 1) := by decide +kernel
theorem dX2_scanRun_140 : decode cX2_scanRun 140 = .ok (.if_icmp .gt 16, 3) := by decide +kernel
theorem dX2_scanRun_143 : decode cX2_scanRun 143 = .ok (.aload_n 0, 1) := by decide +kernel
theorem dX2_scanRun_144 : decode cX2_scanRun 144 = .ok (.iconst 3, 1) := by decide +kernel
theorem dX2_scanRun_145 : decode cX2_scanRun 145 = .ok (.putfield 55, 3) := by decide +kernel
theorem dX2_scanRun_148 : decode cX2_scanRun 148 = .ok (.aload_n 0, 1) := by decide +kernel
theorem dX2_scanRun_149 : decode cX2_scanRun 149 = .ok (.iload_n 3, 1) := by decide +kernel
theorem dX2_scanRun_150 : decode cX2_scanRun 150 = .ok (.putfield 131, 3) := by decide +kernel
theorem dX2_scanRun_153 : decode cX2_scanRun 153 = .ok (.goto 8, 3) := by decide +kernel
theorem dX2_scanRun_156 : decode cX2_scanRun 156 = .ok (.aload_n 0, 1) := by decide +kernel
theorem dX2_scanRun_157 : decode cX2_scanRun 157 = .ok (.iconst 0, 1) := by decide +kernel
theorem dX2_scanRun_158 : decode cX2_scanRun 158 = .ok (.putfield 55, 3) := by decide +kernel
theorem dX2_scanRun_161 : decode cX2_scanRun 161 = .ok (.return_, 1) := by decide +kernel
theorem dX2_isWord_0 : decode cX2_isWord 0 = .ok (.aload_n 0, 1) := by decide +kernel
theorem dX2_isWord_1 : decode cX2_isWord 1 = .ok (.getfield 55, 3) := by decide +kernel
theorem dX2_isWord_4 : decode cX2_isWord 4 = .ok (.iconst 2, 1) := by decide +kernel
theorem dX2_isWord_5 : decode cX2_isWord 5 = .ok (.if_icmp .ne 19, 3) := by decide +kernel
theorem dX2_isWord_8 : decode cX2_isWord 8 = .ok (.aload_n 0, 1) := by decide +kernel
theorem dX2_isWord_9 : decode cX2_isWord 9 = .ok (.getfield 75, 3) := by decide +kernel
theorem dX2_isWord_12 : decode cX2_isWord 12 = .ok (.aload_n 0, 1) := by decide +kernel
theorem dX2_isWord_13 : decode cX2_isWord 13 = .ok (.getfield 81, 3) := by decide +kernel
theorem dX2_isWord_16 : decode cX2_isWord 16 = .ok (.isub, 1) := by decide +kernel
theorem dX2_isWord_17 : decode cX2_isWord 17 = .ok (.aload_n 1, 1) := by decide +kernel
theorem dX2_isWord_18 : decode cX2_isWord 18 = .ok (.invokevirtual 181, 3) := by decide +kernel
theorem dX2_isWord_21 : decode cX2_isWord 21 = .ok (.if_icmp .eq 5, 3) := by decide +kernel
theorem dX2_isWord_24 : decode cX2_isWord 24 = .ok (.iconst 0, 1) := by decide +kernel
theorem dX2_isWord_25 : decode cX2_isWord 25 = .ok (.ireturn, 1) := by decide +kernel
theorem dX2_isWord_26 : decode cX2_isWord 26 = .ok (.iconst 0, 1) := by decide +kernel
theorem dX2_isWord_27 : decode cX2_isWord 27 = .ok (.istore_n 2, 1) := by decide +kernel
theorem dX2_isWord_28 : decode cX2_isWord 28 = .ok (.iload_n 2, 1) := by decide +kernel
theorem dX2_isWord_29 : decode cX2_isWord 29 = .ok (.aload_n 1, 1) := by decide +kernel
theorem dX2_isWord_30 : decode cX2_isWord 30 = .ok (.invokevirtual 181, 3) := by decide +kernel
theorem dX2_isWord_33 : decode cX2_isWord 33 = .ok (.if_icmp .ge 32, 3) := by decide +kernel
theorem dX2_isWord_36 : decode cX2_isWord 36 = .ok (.aload_n 0, 1) := by decide +kernel
theorem dX2_isWord_37 : decode cX2_isWord 37 = .ok (.getfield 22, 3) := by decide +kernel
theorem dX2_isWord_40 : decode cX2_isWord 40 = .ok (.aload_n 0, 1) := by decide +kernel
theorem dX2_isWord_41 : decode cX2_isWord 41 = .ok (.getfield 81, 3) := by decide +kernel
theorem dX2_isWord_44 : decode cX2_isWord 44 = .ok (.iload_n 2, 1) := by decide +kernel
theorem dX2_isWord_45 : decode cX2_isWord 45 = .ok (.iadd, 1) := by decide +kernel
theorem dX2_isWord_46 : decode cX2_isWord 46 = .ok (.invokevirtual 164, 3) := by decide +kernel
theorem dX2_isWord_49 : decode cX2_isWord 49 = .ok (.aload_n 1, 1) := by decide +kernel
theorem dX2_isWord_50 : decode cX2_isWord 50 = .ok (.iload_n 2, 1) := by decide +kernel
theorem dX2_isWord_51 : decode cX2_isWord 51 = .ok (.invokevirtual 184, 3) := by decide +kernel
theorem dX2_isWord_54 : decode cX2_isWord 54 = .ok (.if_icmp .eq 5, 3) := by decide +kernel
theorem dX2_isWord_57 : decode cX2_isWord 57 = .ok (.iconst 0, 1) := by decide +kernel
theorem dX2_isWord_58 : decode cX2_isWord 58 = .ok (.ireturn, 1) := by decide +kernel
theorem dX2_isWord_59 : decode cX2_isWord 59 = .ok (.iinc 2 1, 3) := by decide +kernel
theorem dX2_isWord_62 : decode cX2_isWord 62 = .ok (.goto (-34), 3) := by decide +kernel
theorem dX2_isWord_65 : decode cX2_isWord 65 = .ok (.iconst 1, 1) := by decide +kernel
theorem dX2_isWord_66 : decode cX2_isWord 66 = .ok (.ireturn, 1) := by decide +kernel
theorem dX2_isBlank_0 : decode cX2_isBlank 0 = .ok (.iload_n 0, 1) := by decide +kernel
theorem dX2_isBlank_1 : decode cX2_isBlank 1 = .ok (.bipush 32, 2) := by decide +kernel
theorem dX2_isBlank_3 : decode cX2_isBlank 3 = .ok (.if_icmp .eq 9, 3) := by decide +kernel
theorem dX2_isBlank_6 : decode cX2_isBlank 6 = .ok (.iload_n 0, 1) := by decide +kernel
theorem dX2_isBlank_7 : decode cX2_isBlank 7 = .ok (.bipush 10, 2) := by decide +kernel
theorem dX2_isBlank_9 : decode cX2_isBlank 9 = .ok (.if_icmp .ne 7, 3) := by decide +kernel
theorem dX2_isBlank_12 : decode cX2_isBlank 12 = .ok (.iconst 1, 1) := by decide +kernel
theorem dX2_isBlank_13 : decode cX2_isBlank 13 = .ok (.goto 4, 3) := by decide +kernel
theorem dX2_isBlank_16 : decode cX2_isBlank 16 = .ok (.iconst 0, 1) := by decide +kernel
theorem dX2_isBlank_17 : decode cX2_isBlank 17 = .ok (.ireturn, 1) := by decide +kernel
theorem dX2_isLetter_0 : decode cX2_isLetter 0 = .ok (.iload_n 0, 1) := by decide +kernel
theorem dX2_isLetter_1 : decode cX2_isLetter 1 = .ok (.bipush 97, 2) := by decide +kernel
theorem dX2_isLetter_3 : decode cX2_isLetter 3 = .ok (.if_icmp .lt 13, 3) := by decide +kernel
theorem dX2_isLetter_6 : decode cX2_isLetter 6 = .ok (.iload_n 0, 1) := by decide +kernel
theorem dX2_isLetter_7 : decode cX2_isLetter 7 = .ok (.bipush 122, 2) := by decide +kernel
theorem dX2_isLetter_9 : decode cX2_isLetter 9 = .ok (.if_icmp .gt 7, 3) := by decide +kernel
theorem dX2_isLetter_12 : decode cX2_isLetter 12 = .ok (.iconst 1, 1) := by decide +kernel
theorem dX2_isLetter_13 : decode cX2_isLetter 13 = .ok (.goto 4, 3) := by decide +kernel
theorem dX2_isLetter_16 : decode cX2_isLetter 16 = .ok (.iconst 0, 1) := by decide +kernel
theorem dX2_isLetter_17 : decode cX2_isLetter 17 = .ok (.ireturn, 1) := by decide +kernel
theorem dX2_isDigit_0 : decode cX2_isDigit 0 = .ok (.iload_n 0, 1) := by decide +kernel
theorem dX2_isDigit_1 : decode cX2_isDigit 1 = .ok (.bipush 48, 2) := by decide +kernel
theorem dX2_isDigit_3 : decode cX2_isDigit 3 = .ok (.if_icmp .lt 13, 3) := by decide +kernel
theorem dX2_isDigit_6 : decode cX2_isDigit 6 = .ok (.iload_n 0, 1) := by decide +kernel
theorem dX2_isDigit_7 : decode cX2_isDigit 7 = .ok (.bipush 57, 2) := by decide +kernel
theorem dX2_isDigit_9 : decode cX2_isDigit 9 = .ok (.if_icmp .gt 7, 3) := by decide +kernel
theorem dX2_isDigit_12 : decode cX2_isDigit 12 = .ok (.iconst 1, 1) := by decide +kernel
theorem dX2_isDigit_13 : decode cX2_isDigit 13 = .ok (.goto 4, 3) := by decide +kernel
theorem dX2_isDigit_16 : decode cX2_isDigit 16 = .ok (.iconst 0, 1) := by decide +kernel
theorem dX2_isDigit_17 : decode cX2_isDigit 17 = .ok (.ireturn, 1) := by decide +kernel
