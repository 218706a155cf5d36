theorem dX6_init_0 : decode cX6_init 0 = .ok (.aload_n 0, 1) := by decide +kernel
theorem dX6_init_1 : decode cX6_init 1 = .ok (.invokespecial 1, 3) := by decide +kernel
theorem dX6_init_4 : decode cX6_init 4 = .ok (.aload_n 0, 1) := by decide +kernel
theorem dX6_init_5 : decode cX6_init 5 = .ok (.new 7, 3) := by decide +kernel
theorem dX6_init_8 : decode cX6_init 8 = .ok (.dup, 1) := by decide +kernel
theorem dX6_init_9 : decode cX6_init 9 = .ok (.invokespecial 9, 3) := by decide +kernel
theorem dX6_init_12 : decode cX6_init 12 = .ok (.putfield 10, 3) := by decide +kernel
theorem dX6_init_15 : decode cX6_init 15 = .ok (.aload_n 0, 1) := by decide +kernel
theorem dX6_init_16 : decode cX6_init 16 = .ok (.new 16, 3) := by decide +kernel
theorem dX6_init_19 : decode cX6_init 19 = .ok (.dup, 1) := by decide +kernel
theorem dX6_init_20 : decode cX6_init 20 = .ok (.invokespecial 18, 3) := by decide +kernel
theorem dX6_init_23 : decode cX6_init 23 = .ok (.putfield 19, 3) := by decide +kernel
theorem dX6_init_26 : decode cX6_init 26 = .ok (.aload_n 0, 1) := by decide +kernel
theorem dX6_init_27 : decode cX6_init 27 = .ok (.new 23, 3) := by decide +kernel
theorem dX6_init_30 : decode cX6_init 30 = .ok (.dup, 1) := by decide +kernel
theorem dX6_init_31 : decode cX6_init 31 = .ok (.invokespecial 25, 3) := by decide +kernel
theorem dX6_init_34 : decode cX6_init 34 = .ok (.putfield 26, 3) := by decide +kernel
theorem dX6_init_37 : decode cX6_init 37 = .ok (.aload_n 0, 1) := by decide +kernel
theorem dX6_init_38 : decode cX6_init 38 = .ok (.new 30, 3) := by decide +kernel
theorem dX6_init_41 : decode cX6_init 41 = .ok (.dup, 1) := by decide +kernel
theorem dX6_init_42 : decode cX6_init 42 = .ok (.invokespecial 32, 3) := by decide +kernel
theorem dX6_init_45 : decode cX6_init 45 = .ok (.putfield 33, 3) := by decide +kernel
theorem dX6_init_48 : decode cX6_init 48 = .ok (.aload_n 0, 1) := by decide +kernel
theorem dX6_init_49 : decode cX6_init 49 = .ok (.new 37, 3) := by decide +kernel
theorem dX6_init_52 : decode cX6_init 52 = .ok (.dup, 1) := by decide +kernel
theorem dX6_init_53 : decode cX6_init 53 = .ok (.aload_n 0, 1) := by decide +kernel
theorem dX6_init_54 : decode cX6_init 54 = .ok (.getfield 10, 3) := by decide +kernel
theorem dX6_init_57 : decode cX6_init 57 = .ok (.aload_n 0, 1) := by decide +kernel
theorem dX6_init_58 : decode cX6_init 58 = .ok (.getfield 33, 3) := by decide +kernel
theorem dX6_init_61 : decode cX6_init 61 = .ok (.invokespecial 39, 3) := by decide +kernel
theorem dX6_init_64 : decode cX6_init 64 = .ok (.putfield 42, 3) := by decide +kernel
theorem dX6_init_67 : decode cX6_init 67 = .ok (.aload_n 0, 1) := by decide +kernel
theorem dX6_init_68 : decode cX6_init 68 = .ok (.iconst 2, 1) := by decide +kernel
theorem dX6_init_69 : decode cX6_init 69 = .ok (.bipush 51, 2) := by decide +kernel
theorem dX6_init_71 : decode cX6_init 71 = .ok (.multianewarray 46 2, 4) := by decide +kernel
theorem dX6_init_75 : decode cX6_init 75 = .ok (.putfield 48, 3) := by decide +kernel
theorem dX6_init_78 : decode cX6_init 78 = .ok (.aload_n 0, 1) := by decide +kernel
theorem dX6_init_79 : decode cX6_init 79 = .ok (.iconst 2, 1) := by decide +kernel
theorem dX6_init_80 : decode cX6_init 80 = .ok (.newarray .boolean, 2) := by decide +kernel
theorem dX6_init_82 : decode cX6_init 82 = .ok (.putfield 51, 3) := by decide +kernel
theorem dX6_init_85 : decode cX6_init 85 = .ok (.aload_n 0, 1) := by decide +kernel
theorem dX6_init_86 : decode cX6_init 86 = .ok (.iconst 3, 1) := by decide +kernel
theorem dX6_init_87 : decode cX6_init 87 = .ok (.newarray .int, 2) := by decide +kernel
theorem dX6_init_89 : decode cX6_init 89 = .ok (.putfield 55, 3) := by decide +kernel
theorem dX6_init_92 : decode cX6_init 92 = .ok (.return_, 1) := by decide +kernel
theorem dX6_feed_0 : decode cX6_feed 0 = .ok (.aload_n 0, 1) := by decide +kernel
theorem dX6_feed_1 : decode cX6_feed 1 = .ok (.getfield 10, 3) := by decide +kernel
theorem dX6_feed_4 : decode cX6_feed 4 = .ok (.bipush 20, 2) := by decide +kernel
theorem dX6_feed_6 : decode cX6_feed 6 = .ok (.invokevirtual 59, 3) := by decide +kernel
theorem dX6_feed_9 : decode cX6_feed 9 = .ok (.ifCond .ne 5, 3) := by decide +kernel
theorem dX6_feed_12 : decode cX6_feed 12 = .ok (.iconst (-1), 1) := by decide +kernel
theorem dX6_feed_13 : decode cX6_feed 13 = .ok (.ireturn, 1) := by decide +kernel
theorem dX6_feed_14 : decode cX6_feed 14 = .ok (.aload_n 0, 1) := by decide +kernel
theorem dX6_feed_15 : decode cX6_feed 15 = .ok (.getfield 10, 3) := by decide +kernel
theorem dX6_feed_18 : decode cX6_feed 18 = .ok (.iload_n 1, 1) := by decide +kernel
theorem dX6_feed_19 : decode cX6_feed 19 = .ok (.invokevirtual 63, 3) := by decide +kernel
theorem dX6_feed_22 : decode cX6_feed 22 = .ok (.aload_n 0, 1) := by decide +kernel
theorem dX6_feed_23 : decode cX6_feed 23 = .ok (.getfield 10, 3) := by decide +kernel
theorem dX6_feed_26 : decode cX6_feed 26 = .ok (.iload_n 2, 1) := by decide +kernel
theorem dX6_feed_27 : decode cX6_feed 27 = .ok (.invokevirtual 63, 3) := by decide +kernel
theorem dX6_feed_30 : decode cX6_feed 30 = .ok (.aload_n 0, 1) := by decide +kernel
theorem dX6_feed_31 : decode cX6_feed 31 = .ok (.getfield 10, 3) := by decide +kernel
theorem dX6_feed_34 : decode cX6_feed 34 = .ok (.iload_n 3, 1) := by decide +kernel
theorem dX6_feed_35 : decode cX6_feed 35 = .ok (.invokevirtual 63, 3) := by decide +kernel
theorem dX6_feed_38 : decode cX6_feed 38 = .ok (.aload_n 0, 1) := by decide +kernel
theorem dX6_feed_39 : decode cX6_feed 39 = .ok (.getfield 10, 3) := by decide +kernel
theorem dX6_feed_42 : decode cX6_feed 42 = .ok (.iload 4, 2) := by decide +kernel
theorem dX6_feed_44 : decode cX6_feed 44 = .ok (.invokevirtual 63, 3) := by decide +kernel
theorem dX6_feed_47 : decode cX6_feed 47 = .ok (.aload_n 0, 1) := by decide +kernel
theorem dX6_feed_48 : decode cX6_feed 48 = .ok (.getfield 10, 3) := by decide +kernel
theorem dX6_feed_51 : decode cX6_feed 51 = .ok (.iload 5, 2) := by decide +kernel
theorem dX6_feed_53 : decode cX6_feed 53 = .ok (.invokevirtual 63, 3) := by decide +kernel
theorem dX6_feed_56 : decode cX6_feed 56 = .ok (.aload_n 0, 1) := by decide +kernel
theorem dX6_feed_57 : decode cX6_feed 57 = .ok (.getfield 10, 3) := by decide +kernel
theorem dX6_feed_60 : decode cX6_feed 60 = .ok (.invokevirtual 67, 3) := by decide +kernel
theorem dX6_feed_63 : decode cX6_feed 63 = .ok (.ireturn, 1) := by decide +kernel
theorem dX6_end_0 : decode cX6_end 0 = .ok (.aload_n 0, 1) := by decide +kernel
theorem dX6_end_1 : decode cX6_end 1 = .ok (.getfield 10, 3) := by decide +kernel
theorem dX6_end_4 : decode cX6_end 4 = .ok (.iload_n 1, 1) := by decide +kernel
theorem dX6_end_5 : decode cX6_end 5 = .ok (.invokevirtual 71, 3) := by decide +kernel
theorem dX6_end_8 : decode cX6_end 8 = .ok (.ireturn, 1) := by decide +kernel
theorem dX6_text_0 : decode cX6_text 0 = .ok (.aload_n 0, 1) := by decide +kernel
theorem dX6_text_1 : decode cX6_text 1 = .ok (.getfield 42, 3) := by decide +kernel
theorem dX6_text_4 : decode cX6_text 4 = .ok (.invokevirtual 74, 3) := by decide +kernel
theorem dX6_text_7 : decode cX6_text 7 = .ok (.istore_n 1, 1) := by decide +kernel
theorem dX6_text_8 : decode cX6_text 8 = .ok (.aload_n 0, 1) := by decide +kernel
theorem dX6_text_9 : decode cX6_text 9 = .ok (.getfield 10, 3) := by decide +kernel
theorem dX6_text_12 : decode cX6_text 12 = .ok (.iconst 0, 1) := by decide +kernel
theorem dX6_text_13 : decode cX6_text 13 = .ok (.invokevirtual 71, 3) := by decide +kernel
theorem dX6_text_16 : decode cX6_text 16 = .ok (.pop, 1) := by decide +kernel
theorem dX6_text_17 : decode cX6_text 17 = .ok (.aload_n 0, 1) := by decide +kernel
theorem dX6_text_18 : decode cX6_text 18 = .ok (.aload_n 0, 1) := by decide +kernel
theorem dX6_text_19 : decode cX6_text 19 = .ok (.getfield 42, 3) := by decide +kernel
theorem dX6_text_22 : decode cX6_text 22 = .ok (.invokevirtual 78, 3) := by decide +kernel
theorem dX6_text_25 : decode cX6_text 25 = .ok (.putfield 81, 3) := by decide +kernel
theorem dX6_text_28 : decode cX6_text 28 = .ok (.iload_n 1, 1) := by decide +kernel
theorem dX6_text_29 : decode cX6_text 29 = .ok (.ifCond .ne 13, 3) := by decide +kernel
theorem dX6_text_32 : decode cX6_text 32 = .ok (.iconst (-1), 1) := by decide +kernel
theorem dX6_text_33 : decode cX6_text 33 = .ok (.aload_n 0, 1) := by decide +kernel
theorem dX6_text_34 : decode cX6_text 34 = .ok (.getfield 42, 3) := by decide +kernel
theorem dX6_text_37 : decode cX6_text 37 = .ok (.invokevirtual 84, 3) := by decide +kernel
theorem dX6_text_40 : decode cX6_text 40 = .ok (.isub, 1) := by decide +kernel
theorem dX6_text_41 : decode cX6_text 41 = .ok (.ireturn, 1) := by decide +kernel
theorem dX6_text_42 : decode cX6_text 42 = .ok (.aload_n 0, 1) := by decide +kernel
theorem dX6_text_43 : decode cX6_text 43 = .ok (.getfield 42, 3) := by decide +kernel
theorem dX6_text_46 : decode cX6_text 46 = .ok (.aload_n 0, 1) := by decide +kernel
theorem dX6_text_47 : decode cX6_text 47 = .ok (.getfield 19, 3) := by decide +kernel
theorem dX6_text_50 : decode cX6_text 50 = .ok (.invokevirtual 87, 3) := by decide +kernel
theorem dX6_text_53 : decode cX6_text 53 = .ok (.aload_n 0, 1) := by decide +kernel
theorem dX6_text_54 : decode cX6_text 54 = .ok (.getfield 26, 3) := by decide +kernel
theorem dX6_text_57 : decode cX6_text 57 = .ok (.invokevirtual 91, 3) := by decide +kernel
theorem dX6_text_60 : decode cX6_text 60 = .ok (.aload_n 0, 1) := by decide +kernel
theorem dX6_text_61 : decode cX6_text 61 = .ok (.getfield 42, 3) := by decide +kernel
theorem dX6_text_64 : decode cX6_text 64 = .ok (.invokevirtual 94, 3) := by decide +kernel
theorem dX6_text_67 : decode cX6_text 67 = .ok (.ireturn, 1) := by decide +kernel
theorem dX6_fault_0 : decode cX6_fault 0 = .ok (.aload_n 0, 1) := by decide +kernel
theorem dX6_fault_1 : decode cX6_fault 1 = .ok (.getfield 81, 3) := by decide +kernel
theorem dX6_fault_4 : decode cX6_fault 4 = .ok (.ireturn, 1) := by decide +kernel
theorem dX6_now_0 : decode cX6_now 0 = .ok (.iload_n 1, 1) := by decide +kernel
theorem dX6_now_1 : decode cX6_now 1 = .ok (.tableswitch 75 0 4 #[35, 43, 51, 59, 67], 35) := by decide +kernel
theorem dX6_now_36 : decode cX6_now 36 = .ok (.aload_n 0, 1) := by decide +kernel
theorem dX6_now_37 : decode cX6_now 37 = .ok (.getfield 19, 3) := by decide +kernel
theorem dX6_now_40 : decode cX6_now 40 = .ok (.invokevirtual 97, 3) := by decide +kernel
theorem dX6_now_43 : decode cX6_now 43 = .ok (.ireturn, 1) := by decide +kernel
theorem dX6_now_44 : decode cX6_now 44 = .ok (.aload_n 0, 1) := by decide +kernel
theorem dX6_now_45 : decode cX6_now 45 = .ok (.getfield 19, 3) := by decide +kernel
theorem dX6_now_48 : decode cX6_now 48 = .ok (.invokevirtual 100, 3) := by decide +kernel
theorem dX6_now_51 : decode cX6_now 51 = .ok (.ireturn, 1) := by decide +kernel
theorem dX6_now_52 : decode cX6_now 52 = .ok (.aload_n 0, 1) := by decide +kernel
theorem dX6_now_53 : decode cX6_now 53 = .ok (.getfield 19, 3) := by decide +kernel
theorem dX6_now_56 : decode cX6_now 56 = .ok (.invokevirtual 103, 3) := by decide +kernel
theorem dX6_now_59 : decode cX6_now 59 = .ok (.ireturn, 1) := by decide +kernel
theorem dX6_now_60 : decode cX6_now 60 = .ok (.aload_n 0, 1) := by decide +kernel
theorem dX6_now_61 : decode cX6_now 61 = .ok (.getfield 26, 3) := by decide +kernel
theorem dX6_now_64 : decode cX6_now 64 = .ok (.invokevirtual 106, 3) := by decide +kernel
theorem dX6_now_67 : decode cX6_now 67 = .ok (.ireturn, 1) := by decide +kernel
theorem dX6_now_68 : decode cX6_now 68 = .ok (.aload_n 0, 1) := by decide +kernel
theorem dX6_now_69 : decode cX6_now 69 = .ok (.getfield 10, 3) := by decide +kernel
theorem dX6_now_72 : decode cX6_now 72 = .ok (.invokevirtual 67, 3) := by decide +kernel
theorem dX6_now_75 : decode cX6_now 75 = .ok (.ireturn, 1) := by decide +kernel
theorem dX6_now_76 : decode cX6_now 76 = .ok (.iconst (-1), 1) := by decide +kernel
theorem dX6_now_77 : decode cX6_now 77 = .ok (.ireturn, 1) := by decide +kernel
theorem dX6_lead_0 : decode cX6_lead 0 = .ok (.aload_n 0, 1) := by decide +kernel
theorem dX6_lead_1 : decode cX6_lead 1 = .ok (.iload_n 1, 1) := by decide +kernel
theorem dX6_lead_2 : decode cX6_lead 2 = .ok (.iload_n 2, 1) := by decide +kernel
theorem dX6_lead_3 : decode cX6_lead 3 = .ok (.invokevirtual 109, 3) := by decide +kernel
theorem dX6_lead_6 : decode cX6_lead 6 = .ok (.ifCond .eq 16, 3) := by decide +kernel
theorem dX6_lead_9 : decode cX6_lead 9 = .ok (.aload_n 0, 1) := by decide +kernel
theorem dX6_lead_10 : decode cX6_lead 10 = .ok (.getfield 19, 3) := by decide +kernel
theorem dX6_lead_13 : decode cX6_lead 13 = .ok (.iload_n 1, 1) := by decide +kernel
theorem dX6_lead_14 : decode cX6_lead 14 = .ok (.iload_n 2, 1) := by decide +kernel
theorem dX6_lead_15 : decode cX6_lead 15 = .ok (.iload_n 2, 1) := by decide +kernel
theorem dX6_lead_16 : decode cX6_lead 16 = .ok (.invokevirtual 113, 3) := by decide +kernel
theorem dX6_lead_19 : decode cX6_lead 19 = .ok (.goto 4, 3) := by decide +kernel
theorem dX6_lead_22 : decode cX6_lead 22 = .ok (.iconst (-1), 1) := by decide +kernel
theorem dX6_lead_23 : decode cX6_lead 23 = .ok (.ireturn, 1) := by decide +kernel
theorem dX6_form_0 : decode cX6_form 0 = .ok (.aload_n 0, 1) := by decide +kernel
theorem dX6_form_1 : decode cX6_form 1 = .ok (.iload_n 1, 1) := by decide +kernel
theorem dX6_form_2 : decode cX6_form 2 = .ok (.iload_n 2, 1) := by decide +kernel
theorem dX6_form_3 : decode cX6_form 3 = .ok (.invokevirtual 109, 3) := by decide +kernel
theorem dX6_form_6 : decode cX6_form 6 = .ok (.ifCond .eq 16, 3) := by decide +kernel
theorem dX6_form_9 : decode cX6_form 9 = .ok (.aload_n 0, 1) := by decide +kernel
theorem dX6_form_10 : decode cX6_form 10 = .ok (.getfield 19, 3) := by decide +kernel
theorem dX6_form_13 : decode cX6_form 13 = .ok (.iload_n 1, 1) := by decide +kernel
theorem dX6_form_14 : decode cX6_form 14 = .ok (.iload_n 2, 1) := by decide +kernel
theorem dX6_form_15 : decode cX6_form 15 = .ok (.iload_n 2, 1) := by decide +kernel
theorem dX6_form_16 : decode cX6_form 16 = .ok (.invokevirtual 113, 3) := by decide +kernel
theorem dX6_form_19 : decode cX6_form 19 = .ok (.ifCond .ne 5, 3) := by decide +kernel
theorem dX6_form_22 : decode cX6_form 22 = .ok (.iconst (-1), 1) := by decide +kernel
theorem dX6_form_23 : decode cX6_form 23 = .ok (.ireturn, 1) := by decide +kernel
theorem dX6_form_24 : decode cX6_form 24 = .ok (.aload_n 0, 1) := by decide +kernel
theorem dX6_form_25 : decode cX6_form 25 = .ok (.getfield 19, 3) := by decide +kernel
theorem dX6_form_28 : decode cX6_form 28 = .ok (.iload_n 1, 1) := by decide +kernel
theorem dX6_form_29 : decode cX6_form 29 = .ok (.iload_n 2, 1) := by decide +kernel
theorem dX6_form_30 : decode cX6_form 30 = .ok (.aload_n 0, 1) := by decide +kernel
theorem dX6_form_31 : decode cX6_form 31 = .ok (.getfield 55, 3) := by decide +kernel
theorem dX6_form_34 : decode cX6_form 34 = .ok (.invokevirtual 117, 3) := by decide +kernel
theorem dX6_form_37 : decode cX6_form 37 = .ok (.aload_n 0, 1) := by decide +kernel
theorem dX6_form_38 : decode cX6_form 38 = .ok (.invokevirtual 121, 3) := by decide +kernel
theorem dX6_form_41 : decode cX6_form 41 = .ok (.ireturn, 1) := by decide +kernel
theorem dX6_many_0 : decode cX6_many 0 = .ok (.aload_n 0, 1) := by decide +kernel
theorem dX6_many_1 : decode cX6_many 1 = .ok (.getfield 19, 3) := by decide +kernel
theorem dX6_many_4 : decode cX6_many 4 = .ok (.iload_n 1, 1) := by decide +kernel
theorem dX6_many_5 : decode cX6_many 5 = .ok (.invokevirtual 124, 3) := by decide +kernel
theorem dX6_many_8 : decode cX6_many 8 = .ok (.ifCond .eq 14, 3) := by decide +kernel
theorem dX6_many_11 : decode cX6_many 11 = .ok (.aload_n 0, 1) := by decide +kernel
theorem dX6_many_12 : decode cX6_many 12 = .ok (.getfield 19, 3) := by decide +kernel
theorem dX6_many_15 : decode cX6_many 15 = .ok (.iload_n 1, 1) := by decide +kernel
theorem dX6_many_16 : decode cX6_many 16 = .ok (.invokevirtual 127, 3) := by decide +kernel
theorem dX6_many_19 : decode cX6_many 19 = .ok (.goto 4, 3) := by decide +kernel
theorem dX6_many_22 : decode cX6_many 22 = .ok (.iconst (-1), 1) := by decide +kernel
theorem dX6_many_23 : decode cX6_many 23 = .ok (.ireturn, 1) := by decide +kernel
theorem dX6_row_0 : decode cX6_row 0 = .ok (.aload_n 0, 1) := by decide +kernel
theorem dX6_row_1 : decode cX6_row 1 = .ok (.getfield 19, 3) := by decide +kernel
theorem dX6_row_4 : decode cX6_row 4 = .ok (.iload_n 1, 1) := by decide +kernel
theorem dX6_row_5 : decode cX6_row 5 = .ok (.invokevirtual 124, 3) := by decide +kernel
theorem dX6_row_8 : decode cX6_row 8 = .ok (.ifCond .eq 19, 3) := by decide +kernel
theorem dX6_row_11 : decode cX6_row 11 = .ok (.iload_n 2, 1) := by decide +kernel
theorem dX6_row_12 : decode cX6_row 12 = .ok (.ifCond .lt 15, 3) := by decide +kernel
theorem dX6_row_15 : decode cX6_row 15 = .ok (.iload_n 2, 1) := by decide +kernel
theorem dX6_row_16 : decode cX6_row 16 = .ok (.aload_n 0, 1) := by decide +kernel
theorem dX6_row_17 : decode cX6_row 17 = .ok (.getfield 19, 3) := by decide +kernel
theorem dX6_row_20 : decode cX6_row 20 = .ok (.iload_n 1, 1) := by decide +kernel
theorem dX6_row_21 : decode cX6_row 21 = .ok (.invokevirtual 127, 3) := by decide +kernel
theorem dX6_row_24 : decode cX6_row 24 = .ok (.if_icmp .lt 13, 3) := by decide +kernel
theorem dX6_row_27 : decode cX6_row 27 = .ok (.new 131, 3) := by decide +kernel
theorem dX6_row_30 : decode cX6_row 30 = .ok (.dup, 1) := by decide +kernel
theorem dX6_row_31 : decode cX6_row 31 = .ok (.ldc 133, 2) := by decide +kernel
theorem dX6_row_33 : decode cX6_row 33 = .ok (.invokespecial 135, 3) := by decide +kernel
theorem dX6_row_36 : decode cX6_row 36 = .ok (.athrow, 1) := by decide +kernel
theorem dX6_row_37 : decode cX6_row 37 = .ok (.aload_n 0, 1) := by decide +kernel
theorem dX6_row_38 : decode cX6_row 38 = .ok (.getfield 19, 3) := by decide +kernel
theorem dX6_row_41 : decode cX6_row 41 = .ok (.iload_n 1, 1) := by decide +kernel
theorem dX6_row_42 : decode cX6_row 42 = .ok (.iload_n 2, 1) := by decide +kernel
theorem dX6_row_43 : decode cX6_row 43 = .ok (.aload_n 0, 1) := by decide +kernel
theorem dX6_row_44 : decode cX6_row 44 = .ok (.getfield 55, 3) := by decide +kernel
theorem dX6_row_47 : decode cX6_row 47 = .ok (.invokevirtual 138, 3) := by decide +kernel
theorem dX6_row_50 : decode cX6_row 50 = .ok (.aload_n 0, 1) := by decide +kernel
theorem dX6_row_51 : decode cX6_row 51 = .ok (.invokevirtual 121, 3) := by decide +kernel
theorem dX6_row_54 : decode cX6_row 54 = .ok (.ireturn, 1) := by decide +kernel
theorem dX6_rank_0 : decode cX6_rank 0 = .ok (.aload_n 0, 1) := by decide +kernel
theorem dX6_rank_1 : decode cX6_rank 1 = .ok (.iload_n 1, 1) := by decide +kernel
theorem dX6_rank_2 : decode cX6_rank 2 = .ok (.iload_n 2, 1) := by decide +kernel
theorem dX6_rank_3 : decode cX6_rank 3 = .ok (.iload_n 3, 1) := by decide +kernel
theorem dX6_rank_4 : decode cX6_rank 4 = .ok (.iload 4, 2) := by decide +kernel
theorem dX6_rank_6 : decode cX6_rank 6 = .ok (.invokevirtual 141, 3) := by decide +kernel
theorem dX6_rank_9 : decode cX6_rank 9 = .ok (.ifCond .ne 5, 3) := by decide +kernel
theorem dX6_rank_12 : decode cX6_rank 12 = .ok (.iconst (-1), 1) := by decide +kernel
theorem dX6_rank_13 : decode cX6_rank 13 = .ok (.ireturn, 1) := by decide +kernel
theorem dX6_rank_14 : decode cX6_rank 14 = .ok (.aload_n 0, 1) := by decide +kernel
theorem dX6_rank_15 : decode cX6_rank 15 = .ok (.getfield 19, 3) := by decide +kernel
theorem dX6_rank_18 : decode cX6_rank 18 = .ok (.iload_n 1, 1) := by decide +kernel
theorem dX6_rank_19 : decode cX6_rank 19 = .ok (.aload_n 0, 1) := by decide +kernel
theorem dX6_rank_20 : decode cX6_rank 20 = .ok (.getfield 55, 3) := by decide +kernel
theorem dX6_rank_23 : decode cX6_rank 23 = .ok (.invokevirtual 145, 3) := by decide +kernel
theorem dX6_rank_26 : decode cX6_rank 26 = .ok (.istore 5, 2) := by decide +kernel
theorem dX6_rank_28 : decode cX6_rank 28 = .ok (.aload_n 0, 1) := by decide +kernel
theorem dX6_rank_29 : decode cX6_rank 29 = .ok (.getfield 19, 3) := by decide +kernel
theorem dX6_rank_32 : decode cX6_rank 32 = .ok (.iload_n 1, 1) := by decide +kernel
theorem dX6_rank_33 : decode cX6_rank 33 = .ok (.aload_n 0, 1) := by decide +kernel
theorem dX6_rank_34 : decode cX6_rank 34 = .ok (.getfield 55, 3) := by decide +kernel
theorem dX6_rank_37 : decode cX6_rank 37 = .ok (.invokevirtual 149, 3) := by decide +kernel
theorem dX6_rank_40 : decode cX6_rank 40 = .ok (.aload_n 0, 1) := by decide +kernel
theorem dX6_rank_41 : decode cX6_rank 41 = .ok (.getfield 55, 3) := by decide +kernel
theorem dX6_rank_44 : decode cX6_rank 44 = .ok (.invokestatic 153, 3) := by decide +kernel
theorem dX6_rank_47 : decode cX6_rank 47 = .ok (.ifCond .eq 8, 3) := by decide +kernel
theorem dX6_rank_50 : decode cX6_rank 50 = .ok (.iload 5, 2) := by decide +kernel
theorem dX6_rank_52 : decode cX6_rank 52 = .ok (.goto 4, 3) := by decide +kernel
theorem dX6_rank_55 : decode cX6_rank 55 = .ok (.iconst (-1), 1) := by decide +kernel
theorem dX6_rank_56 : decode cX6_rank 56 = .ok (.ireturn, 1) := by decide +kernel
theorem dX6_beside_0 : decode cX6_beside 0 = .ok (.aload_n 0, 1) := by decide +kernel
theorem dX6_beside_1 : decode cX6_beside 1 = .ok (.iload_n 1, 1) := by decide +kernel
theorem dX6_beside_2 : decode cX6_beside 2 = .ok (.iload_n 2, 1) := by decide +kernel
theorem dX6_beside_3 : decode cX6_beside 3 = .ok (.iload_n 3, 1) := by decide +kernel
theorem dX6_beside_4 : decode cX6_beside 4 = .ok (.iload 4, 2) := by decide +kernel
theorem dX6_beside_6 : decode cX6_beside 6 = .ok (.invokevirtual 141, 3) := by decide +kernel
theorem dX6_beside_9 : decode cX6_beside 9 = .ok (.ifCond .ne 5, 3) := by decide +kernel
theorem dX6_beside_12 : decode cX6_beside 12 = .ok (.iconst (-1), 1) := by decide +kernel
theorem dX6_beside_13 : decode cX6_beside 13 = .ok (.ireturn, 1) := by decide +kernel
theorem dX6_beside_14 : decode cX6_beside 14 = .ok (.aload_n 0, 1) := by decide +kernel
theorem dX6_beside_15 : decode cX6_beside 15 = .ok (.getfield 19, 3) := by decide +kernel
theorem dX6_beside_18 : decode cX6_beside 18 = .ok (.iload_n 1, 1) := by decide +kernel
theorem dX6_beside_19 : decode cX6_beside 19 = .ok (.aload_n 0, 1) := by decide +kernel
theorem dX6_beside_20 : decode cX6_beside 20 = .ok (.getfield 55, 3) := by decide +kernel
theorem dX6_beside_23 : decode cX6_beside 23 = .ok (.invokevirtual 149, 3) := by decide +kernel
theorem dX6_beside_26 : decode cX6_beside 26 = .ok (.aload_n 0, 1) := by decide +kernel
theorem dX6_beside_27 : decode cX6_beside 27 = .ok (.invokevirtual 121, 3) := by decide +kernel
theorem dX6_beside_30 : decode cX6_beside 30 = .ok (.ireturn, 1) := by decide +kernel
theorem dX6_few_0 : decode cX6_few 0 = .ok (.aload_n 0, 1) := by decide +kernel
theorem dX6_few_1 : decode cX6_few 1 = .ok (.getfield 19, 3) := by decide +kernel
theorem dX6_few_4 : decode cX6_few 4 = .ok (.iload_n 1, 1) := by decide +kernel
theorem dX6_few_5 : decode cX6_few 5 = .ok (.invokevirtual 124, 3) := by decide +kernel
theorem dX6_few_8 : decode cX6_few 8 = .ok (.ifCond .eq 18, 3) := by decide +kernel
theorem dX6_few_11 : decode cX6_few 11 = .ok (.aload_n 0, 1) := by decide +kernel
theorem dX6_few_12 : decode cX6_few 12 = .ok (.getfield 33, 3) := by decide +kernel
theorem dX6_few_15 : decode cX6_few 15 = .ok (.aload_n 0, 1) := by decide +kernel
theorem dX6_few_16 : decode cX6_few 16 = .ok (.getfield 19, 3) := by decide +kernel
theorem dX6_few_19 : decode cX6_few 19 = .ok (.iload_n 1, 1) := by decide +kernel
theorem dX6_few_20 : decode cX6_few 20 = .ok (.invokevirtual 157, 3) := by decide +kernel
theorem dX6_few_23 : decode cX6_few 23 = .ok (.goto 4, 3) := by decide +kernel
theorem dX6_few_26 : decode cX6_few 26 = .ok (.iconst (-1), 1) := by decide +kernel
theorem dX6_few_27 : decode cX6_few 27 = .ok (.ireturn, 1) := by decide +kernel
theorem dX6_nought_0 : decode cX6_nought 0 = .ok (.aload_n 0, 1) := by decide +kernel
theorem dX6_nought_1 : decode cX6_nought 1 = .ok (.getfield 19, 3) := by decide +kernel
theorem dX6_nought_4 : decode cX6_nought 4 = .ok (.iload_n 1, 1) := by decide +kernel
theorem dX6_nought_5 : decode cX6_nought 5 = .ok (.invokevirtual 124, 3) := by decide +kernel
theorem dX6_nought_8 : decode cX6_nought 8 = .ok (.ifCond .eq 14, 3) := by decide +kernel
theorem dX6_nought_11 : decode cX6_nought 11 = .ok (.aload_n 0, 1) := by decide +kernel
theorem dX6_nought_12 : decode cX6_nought 12 = .ok (.getfield 19, 3) := by decide +kernel
theorem dX6_nought_15 : decode cX6_nought 15 = .ok (.iload_n 1, 1) := by decide +kernel
theorem dX6_nought_16 : decode cX6_nought 16 = .ok (.invokevirtual 161, 3) := by decide +kernel
theorem dX6_nought_19 : decode cX6_nought 19 = .ok (.goto 4, 3) := by decide +kernel
theorem dX6_nought_22 : decode cX6_nought 22 = .ok (.iconst (-1), 1) := by decide +kernel
theorem dX6_nought_23 : decode cX6_nought 23 = .ok (.ireturn, 1) := by decide +kernel
theorem dX6_lies_0 : decode cX6_lies 0 = .ok (.aload_n 0, 1) := by decide +kernel
theorem dX6_lies_1 : decode cX6_lies 1 = .ok (.getfield 19, 3) := by decide +kernel
theorem dX6_lies_4 : decode cX6_lies 4 = .ok (.iload_n 1, 1) := by decide +kernel
theorem dX6_lies_5 : decode cX6_lies 5 = .ok (.invokevirtual 124, 3) := by decide +kernel
theorem dX6_lies_8 : decode cX6_lies 8 = .ok (.ifCond .eq 14, 3) := by decide +kernel
theorem dX6_lies_11 : decode cX6_lies 11 = .ok (.aload_n 0, 1) := by decide +kernel
theorem dX6_lies_12 : decode cX6_lies 12 = .ok (.getfield 19, 3) := by decide +kernel
theorem dX6_lies_15 : decode cX6_lies 15 = .ok (.iload_n 2, 1) := by decide +kernel
theorem dX6_lies_16 : decode cX6_lies 16 = .ok (.invokevirtual 124, 3) := by decide +kernel
theorem dX6_lies_19 : decode cX6_lies 19 = .ok (.ifCond .ne 5, 3) := by decide +kernel
theorem dX6_lies_22 : decode cX6_lies 22 = .ok (.iconst (-1), 1) := by decide +kernel
theorem dX6_lies_23 : decode cX6_lies 23 = .ok (.ireturn, 1) := by decide +kernel
theorem dX6_lies_24 : decode cX6_lies 24 = .ok (.aload_n 0, 1) := by decide +kernel
theorem dX6_lies_25 : decode cX6_lies 25 = .ok (.iload_n 1, 1) := by decide +kernel
theorem dX6_lies_26 : decode cX6_lies 26 = .ok (.iload_n 2, 1) := by decide +kernel
theorem dX6_lies_27 : decode cX6_lies 27 = .ok (.invokevirtual 164, 3) := by decide +kernel
theorem dX6_lies_30 : decode cX6_lies 30 = .ok (.istore_n 3, 1) := by decide +kernel
theorem dX6_lies_31 : decode cX6_lies 31 = .ok (.aload_n 0, 1) := by decide +kernel
theorem dX6_lies_32 : decode cX6_lies 32 = .ok (.iload_n 2, 1) := by decide +kernel
theorem dX6_lies_33 : decode cX6_lies 33 = .ok (.iload_n 1, 1) := by decide +kernel
theorem dX6_lies_34 : decode cX6_lies 34 = .ok (.invokevirtual 164, 3) := by decide +kernel
theorem dX6_lies_37 : decode cX6_lies 37 = .ok (.istore 4, 2) := by decide +kernel
theorem dX6_lies_39 : decode cX6_lies 39 = .ok (.iload_n 3, 1) := by decide +kernel
theorem dX6_lies_40 : decode cX6_lies 40 = .ok (.ifCond .eq 14, 3) := by decide +kernel
theorem dX6_lies_43 : decode cX6_lies 43 = .ok (.iload 4, 2) := by decide +kernel
theorem dX6_lies_45 : decode cX6_lies 45 = .ok (.ifCond .eq 7, 3) := by decide +kernel
theorem dX6_lies_48 : decode cX6_lies 48 = .ok (.iconst 0, 1) := by decide +kernel
theorem dX6_lies_49 : decode cX6_lies 49 = .ok (.goto 4, 3) := by decide +kernel
theorem dX6_lies_52 : decode cX6_lies 52 = .ok (.iconst 1, 1) := by decide +kernel
theorem dX6_lies_53 : decode cX6_lies 53 = .ok (.ireturn, 1) := by decide +kernel
theorem dX6_lies_54 : decode cX6_lies 54 = .ok (.iload 4, 2) := by decide +kernel
theorem dX6_lies_56 : decode cX6_lies 56 = .ok (.ifCond .eq 7, 3) := by decide +kernel
theorem dX6_lies_59 : decode cX6_lies 59 = .ok (.iconst 2, 1) := by decide +kernel
theorem dX6_lies_60 : decode cX6_lies 60 = .ok (.goto 4, 3) := by decide +kernel
theorem dX6_lies_63 : decode cX6_lies 63 = .ok (.iconst 3, 1) := by decide +kernel
theorem dX6_lies_64 : decode cX6_lies 64 = .ok (.ireturn, 1) := by decide +kernel
theorem dX6_come_0 : decode cX6_come 0 = .ok (.aload_n 0, 1) := by decide +kernel
theorem dX6_come_1 : decode cX6_come 1 = .ok (.iload_n 1, 1) := by decide +kernel
theorem dX6_come_2 : decode cX6_come 2 = .ok (.iload_n 2, 1) := by decide +kernel
theorem dX6_come_3 : decode cX6_come 3 = .ok (.iload_n 3, 1) := by decide +kernel
theorem dX6_come_4 : decode cX6_come 4 = .ok (.iload 4, 2) := by decide +kernel
theorem dX6_come_6 : decode cX6_come 6 = .ok (.invokevirtual 141, 3) := by decide +kernel
theorem dX6_come_9 : decode cX6_come 9 = .ok (.ifCond .ne 5, 3) := by decide +kernel
theorem dX6_come_12 : decode cX6_come 12 = .ok (.iconst (-1), 1) := by decide +kernel
theorem dX6_come_13 : decode cX6_come 13 = .ok (.ireturn, 1) := by decide +kernel
theorem dX6_come_14 : decode cX6_come 14 = .ok (.aload_n 0, 1) := by decide +kernel
theorem dX6_come_15 : decode cX6_come 15 = .ok (.getfield 26, 3) := by decide +kernel
theorem dX6_come_18 : decode cX6_come 18 = .ok (.aload_n 0, 1) := by decide +kernel
theorem dX6_come_19 : decode cX6_come 19 = .ok (.getfield 19, 3) := by decide +kernel
theorem dX6_come_22 : decode cX6_come 22 = .ok (.invokevirtual 167, 3) := by decide +kernel
theorem dX6_come_25 : decode cX6_come 25 = .ok (.aload_n 0, 1) := by decide +kernel
theorem dX6_come_26 : decode cX6_come 26 = .ok (.getfield 33, 3) := by decide +kernel
theorem dX6_come_29 : decode cX6_come 29 = .ok (.aload_n 0, 1) := by decide +kernel
theorem dX6_come_30 : decode cX6_come 30 = .ok (.getfield 19, 3) := by decide +kernel
theorem dX6_come_33 : decode cX6_come 33 = .ok (.iload_n 1, 1) := by decide +kernel
theorem dX6_come_34 : decode cX6_come 34 = .ok (.aload_n 0, 1) := by decide +kernel
theorem dX6_come_35 : decode cX6_come 35 = .ok (.getfield 55, 3) := by decide +kernel
theorem dX6_come_38 : decode cX6_come 38 = .ok (.invokevirtual 170, 3) := by decide +kernel
theorem dX6_come_41 : decode cX6_come 41 = .ok (.aload_n 0, 1) := by decide +kernel
theorem dX6_come_42 : decode cX6_come 42 = .ok (.getfield 19, 3) := by decide +kernel
theorem dX6_come_45 : decode cX6_come 45 = .ok (.iload_n 1, 1) := by decide +kernel
theorem dX6_come_46 : decode cX6_come 46 = .ok (.invokevirtual 127, 3) := by decide +kernel
theorem dX6_come_49 : decode cX6_come 49 = .ok (.ireturn, 1) := by decide +kernel
theorem dX6_clear_0 : decode cX6_clear 0 = .ok (.aload_n 0, 1) := by decide +kernel
theorem dX6_clear_1 : decode cX6_clear 1 = .ok (.getfield 19, 3) := by decide +kernel
theorem dX6_clear_4 : decode cX6_clear 4 = .ok (.iload_n 1, 1) := by decide +kernel
theorem dX6_clear_5 : decode cX6_clear 5 = .ok (.invokevirtual 124, 3) := by decide +kernel
theorem dX6_clear_8 : decode cX6_clear 8 = .ok (.ifCond .ne 5, 3) := by decide +kernel
theorem dX6_clear_11 : decode cX6_clear 11 = .ok (.iconst (-1), 1) := by decide +kernel
theorem dX6_clear_12 : decode cX6_clear 12 = .ok (.ireturn, 1) := by decide +kernel
theorem dX6_clear_13 : decode cX6_clear 13 = .ok (.aload_n 0, 1) := by decide +kernel
theorem dX6_clear_14 : decode cX6_clear 14 = .ok (.getfield 26, 3) := by decide +kernel
theorem dX6_clear_17 : decode cX6_clear 17 = .ok (.aload_n 0, 1) := by decide +kernel
theorem dX6_clear_18 : decode cX6_clear 18 = .ok (.getfield 19, 3) := by decide +kernel
theorem dX6_clear_21 : decode cX6_clear 21 = .ok (.invokevirtual 167, 3) := by decide +kernel
theorem dX6_clear_24 : decode cX6_clear 24 = .ok (.aload_n 0, 1) := by decide +kernel
theorem dX6_clear_25 : decode cX6_clear 25 = .ok (.getfield 19, 3) := by decide +kernel
theorem dX6_clear_28 : decode cX6_clear 28 = .ok (.iload_n 1, 1) := by decide +kernel
theorem dX6_clear_29 : decode cX6_clear 29 = .ok (.iload_n 2, 1) := by decide +kernel
theorem dX6_clear_30 : decode cX6_clear 30 = .ok (.ifCond .eq 7, 3) := by decide +kernel
theorem dX6_clear_33 : decode cX6_clear 33 = .ok (.iconst 1, 1) := by decide +kernel
theorem dX6_clear_34 : decode cX6_clear 34 = .ok (.goto 4, 3) := by decide +kernel
theorem dX6_clear_37 : decode cX6_clear 37 = .ok (.iconst 0, 1) := by decide +kernel
theorem dX6_clear_38 : decode cX6_clear 38 = .ok (.invokevirtual 174, 3) := by decide +kernel
theorem dX6_clear_41 : decode cX6_clear 41 = .ok (.aload_n 0, 1) := by decide +kernel
theorem dX6_clear_42 : decode cX6_clear 42 = .ok (.getfield 19, 3) := by decide +kernel
theorem dX6_clear_45 : decode cX6_clear 45 = .ok (.iload_n 1, 1) := by decide +kernel
theorem dX6_clear_46 : decode cX6_clear 46 = .ok (.invokevirtual 127, 3) := by decide +kernel
theorem dX6_clear_49 : decode cX6_clear 49 = .ok (.ireturn, 1) := by decide +kernel
theorem dX6_join_0 : decode cX6_join 0 = .ok (.aload_n 0, 1) := by decide +kernel
theorem dX6_join_1 : decode cX6_join 1 = .ok (.getfield 19, 3) := by decide +kernel
theorem dX6_join_4 : decode cX6_join 4 = .ok (.iload_n 1, 1) := by decide +kernel
theorem dX6_join_5 : decode cX6_join 5 = .ok (.invokevirtual 124, 3) := by decide +kernel
theorem dX6_join_8 : decode cX6_join 8 = .ok (.ifCond .eq 26, 3) := by decide +kernel
theorem dX6_join_11 : decode cX6_join 11 = .ok (.aload_n 0, 1) := by decide +kernel
theorem dX6_join_12 : decode cX6_join 12 = .ok (.getfield 19, 3) := by decide +kernel
theorem dX6_join_15 : decode cX6_join 15 = .ok (.iload_n 2, 1) := by decide +kernel
theorem dX6_join_16 : decode cX6_join 16 = .ok (.invokevirtual 124, 3) := by decide +kernel
theorem dX6_join_19 : decode cX6_join 19 = .ok (.ifCond .eq 15, 3) := by decide +kernel
theorem dX6_join_22 : decode cX6_join 22 = .ok (.aload_n 0, 1) := by decide +kernel
theorem dX6_join_23 : decode cX6_join 23 = .ok (.getfield 19, 3) := by decide +kernel
theorem dX6_join_26 : decode cX6_join 26 = .ok (.iload 4, 2) := by decide +kernel
theorem dX6_join_28 : decode cX6_join 28 = .ok (.invokevirtual 124, 3) := by decide +kernel
theorem dX6_join_31 : decode cX6_join 31 = .ok (.ifCond .ne 5, 3) := by decide +kernel
theorem dX6_join_34 : decode cX6_join 34 = .ok (.iconst (-1), 1) := by decide +kernel
theorem dX6_join_35 : decode cX6_join 35 = .ok (.ireturn, 1) := by decide +kernel
theorem dX6_join_36 : decode cX6_join 36 = .ok (.aload_n 0, 1) := by decide +kernel
theorem dX6_join_37 : decode cX6_join 37 = .ok (.getfield 26, 3) := by decide +kernel
theorem dX6_join_40 : decode cX6_join 40 = .ok (.aload_n 0, 1) := by decide +kernel
theorem dX6_join_41 : decode cX6_join 41 = .ok (.getfield 19, 3) := by decide +kernel
theorem dX6_join_44 : decode cX6_join 44 = .ok (.invokevirtual 167, 3) := by decide +kernel
theorem dX6_join_47 : decode cX6_join 47 = .ok (.iload_n 3, 1) := by decide +kernel
theorem dX6_join_48 : decode cX6_join 48 = .ok (.ifCond .eq 21, 3) := by decide +kernel
theorem dX6_join_51 : decode cX6_join 51 = .ok (.aload_n 0, 1) := by decide +kernel
theorem dX6_join_52 : decode cX6_join 52 = .ok (.getfield 33, 3) := by decide +kernel
theorem dX6_join_55 : decode cX6_join 55 = .ok (.aload_n 0, 1) := by decide +kernel
theorem dX6_join_56 : decode cX6_join 56 = .ok (.getfield 19, 3) := by decide +kernel
theorem dX6_join_59 : decode cX6_join 59 = .ok (.iload_n 1, 1) := by decide +kernel
theorem dX6_join_60 : decode cX6_join 60 = .ok (.iload_n 2, 1) := by decide +kernel
theorem dX6_join_61 : decode cX6_join 61 = .ok (.iload 4, 2) := by decide +kernel
theorem dX6_join_63 : decode cX6_join 63 = .ok (.invokevirtual 178, 3) := by decide +kernel
theorem dX6_join_66 : decode cX6_join 66 = .ok (.goto 18, 3) := by decide +kernel
theorem dX6_join_69 : decode cX6_join 69 = .ok (.aload_n 0, 1) := by decide +kernel
theorem dX6_join_70 : decode cX6_join 70 = .ok (.getfield 33, 3) := by decide +kernel
theorem dX6_join_73 : decode cX6_join 73 = .ok (.aload_n 0, 1) := by decide +kernel
theorem dX6_join_74 : decode cX6_join 74 = .ok (.getfield 19, 3) := by decide +kernel
theorem dX6_join_77 : decode cX6_join 77 = .ok (.iload_n 1, 1) := by decide +kernel
theorem dX6_join_78 : decode cX6_join 78 = .ok (.iload_n 2, 1) := by decide +kernel
theorem dX6_join_79 : decode cX6_join 79 = .ok (.iload 4, 2) := by decide +kernel
theorem dX6_join_81 : decode cX6_join 81 = .ok (.invokevirtual 182, 3) := by decide +kernel
theorem dX6_join_84 : decode cX6_join 84 = .ok (.aload_n 0, 1) := by decide +kernel
theorem dX6_join_85 : decode cX6_join 85 = .ok (.getfield 19, 3) := by decide +kernel
theorem dX6_join_88 : decode cX6_join 88 = .ok (.iload 4, 2) := by decide +kernel
theorem dX6_join_90 : decode cX6_join 90 = .ok (.invokevirtual 127, 3) := by decide +kernel
theorem dX6_join_93 : decode cX6_join 93 = .ok (.ireturn, 1) := by decide +kernel
theorem dX6_upright_0 : decode cX6_upright 0 = .ok (.aload_n 0, 1) := by decide +kernel
theorem dX6_upright_1 : decode cX6_upright 1 = .ok (.getfield 19, 3) := by decide +kernel
theorem dX6_upright_4 : decode cX6_upright 4 = .ok (.iload_n 1, 1) := by decide +kernel
theorem dX6_upright_5 : decode cX6_upright 5 = .ok (.invokevirtual 124, 3) := by decide +kernel
theorem dX6_upright_8 : decode cX6_upright 8 = .ok (.ifCond .eq 14, 3) := by decide +kernel
theorem dX6_upright_11 : decode cX6_upright 11 = .ok (.aload_n 0, 1) := by decide +kernel
theorem dX6_upright_12 : decode cX6_upright 12 = .ok (.getfield 19, 3) := by decide +kernel
theorem dX6_upright_15 : decode cX6_upright 15 = .ok (.iload_n 2, 1) := by decide +kernel
theorem dX6_upright_16 : decode cX6_upright 16 = .ok (.invokevirtual 124, 3) := by decide +kernel
theorem dX6_upright_19 : decode cX6_upright 19 = .ok (.ifCond .ne 5, 3) := by decide +kernel
theorem dX6_upright_22 : decode cX6_upright 22 = .ok (.iconst (-1), 1) := by decide +kernel
theorem dX6_upright_23 : decode cX6_upright 23 = .ok (.ireturn, 1) := by decide +kernel
theorem dX6_upright_24 : decode cX6_upright 24 = .ok (.aload_n 0, 1) := by decide +kernel
theorem dX6_upright_25 : decode cX6_upright 25 = .ok (.getfield 26, 3) := by decide +kernel
theorem dX6_upright_28 : decode cX6_upright 28 = .ok (.aload_n 0, 1) := by decide +kernel
theorem dX6_upright_29 : decode cX6_upright 29 = .ok (.getfield 19, 3) := by decide +kernel
theorem dX6_upright_32 : decode cX6_upright 32 = .ok (.invokevirtual 167, 3) := by decide +kernel
theorem dX6_upright_35 : decode cX6_upright 35 = .ok (.aload_n 0, 1) := by decide +kernel
theorem dX6_upright_36 : decode cX6_upright 36 = .ok (.getfield 33, 3) := by decide +kernel
theorem dX6_upright_39 : decode cX6_upright 39 = .ok (.aload_n 0, 1) := by decide +kernel
theorem dX6_upright_40 : decode cX6_upright 40 = .ok (.getfield 19, 3) := by decide +kernel
theorem dX6_upright_43 : decode cX6_upright 43 = .ok (.iload_n 1, 1) := by decide +kernel
theorem dX6_upright_44 : decode cX6_upright 44 = .ok (.iload_n 2, 1) := by decide +kernel
theorem dX6_upright_45 : decode cX6_upright 45 = .ok (.invokevirtual 185, 3) := by decide +kernel
theorem dX6_upright_48 : decode cX6_upright 48 = .ok (.aload_n 0, 1) := by decide +kernel
theorem dX6_upright_49 : decode cX6_upright 49 = .ok (.getfield 19, 3) := by decide +kernel
theorem dX6_upright_52 : decode cX6_upright 52 = .ok (.iload_n 2, 1) := by decide +kernel
theorem dX6_upright_53 : decode cX6_upright 53 = .ok (.invokevirtual 127, 3) := by decide +kernel
theorem dX6_upright_56 : decode cX6_upright 56 = .ok (.ireturn, 1) := by decide +kernel
theorem dX6_times_0 : decode cX6_times 0 = .ok (.aload_n 0, 1) := by decide +kernel
theorem dX6_times_1 : decode cX6_times 1 = .ok (.getfield 19, 3) := by decide +kernel
theorem dX6_times_4 : decode cX6_times 4 = .ok (.iload_n 1, 1) := by decide +kernel
theorem dX6_times_5 : decode cX6_times 5 = .ok (.invokevirtual 124, 3) := by decide +kernel
theorem dX6_times_8 : decode cX6_times 8 = .ok (.ifCond .eq 26, 3) := by decide +kernel
theorem dX6_times_11 : decode cX6_times 11 = .ok (.aload_n 0, 1) := by decide +kernel
theorem dX6_times_12 : decode cX6_times 12 = .ok (.getfield 19, 3) := by decide +kernel
theorem dX6_times_15 : decode cX6_times 15 = .ok (.iload 4, 2) := by decide +kernel
theorem dX6_times_17 : decode cX6_times 17 = .ok (.invokevirtual 124, 3) := by decide +kernel
theorem dX6_times_20 : decode cX6_times 20 = .ok (.ifCond .eq 14, 3) := by decide +kernel
theorem dX6_times_23 : decode cX6_times 23 = .ok (.aload_n 0, 1) := by decide +kernel
theorem dX6_times_24 : decode cX6_times 24 = .ok (.getfield 19, 3) := by decide +kernel
theorem dX6_times_27 : decode cX6_times 27 = .ok (.iload_n 2, 1) := by decide +kernel
theorem dX6_times_28 : decode cX6_times 28 = .ok (.invokevirtual 189, 3) := by decide +kernel
theorem dX6_times_31 : decode cX6_times 31 = .ok (.ifCond .ne 5, 3) := by decide +kernel
theorem dX6_times_34 : decode cX6_times 34 = .ok (.iconst (-1), 1) := by decide +kernel
theorem dX6_times_35 : decode cX6_times 35 = .ok (.ireturn, 1) := by decide +kernel
theorem dX6_times_36 : decode cX6_times 36 = .ok (.aload_n 0, 1) := by decide +kernel
theorem dX6_times_37 : decode cX6_times 37 = .ok (.getfield 26, 3) := by decide +kernel
theorem dX6_times_40 : decode cX6_times 40 = .ok (.aload_n 0, 1) := by decide +kernel
theorem dX6_times_41 : decode cX6_times 41 = .ok (.getfield 19, 3) := by decide +kernel
theorem dX6_times_44 : decode cX6_times 44 = .ok (.invokevirtual 167, 3) := by decide +kernel
theorem dX6_times_47 : decode cX6_times 47 = .ok (.iload_n 3, 1) := by decide +kernel
theorem dX6_times_48 : decode cX6_times 48 = .ok (.ifCond .eq 21, 3) := by decide +kernel
theorem dX6_times_51 : decode cX6_times 51 = .ok (.aload_n 0, 1) := by decide +kernel
theorem dX6_times_52 : decode cX6_times 52 = .ok (.getfield 33, 3) := by decide +kernel
theorem dX6_times_55 : decode cX6_times 55 = .ok (.aload_n 0, 1) := by decide +kernel
theorem dX6_times_56 : decode cX6_times 56 = .ok (.getfield 19, 3) := by decide +kernel
theorem dX6_times_59 : decode cX6_times 59 = .ok (.iload_n 1, 1) := by decide +kernel
theorem dX6_times_60 : decode cX6_times 60 = .ok (.iload_n 2, 1) := by decide +kernel
theorem dX6_times_61 : decode cX6_times 61 = .ok (.iload 4, 2) := by decide +kernel
theorem dX6_times_63 : decode cX6_times 63 = .ok (.invokevirtual 192, 3) := by decide +kernel
theorem dX6_times_66 : decode cX6_times 66 = .ok (.goto 18, 3) := by decide +kernel
theorem dX6_times_69 : decode cX6_times 69 = .ok (.aload_n 0, 1) := by decide +kernel
theorem dX6_times_70 : decode cX6_times 70 = .ok (.getfield 33, 3) := by decide +kernel
theorem dX6_times_73 : decode cX6_times 73 = .ok (.aload_n 0, 1) := by decide +kernel
theorem dX6_times_74 : decode cX6_times 74 = .ok (.getfield 19, 3) := by decide +kernel
theorem dX6_times_77 : decode cX6_times 77 = .ok (.iload_n 1, 1) := by decide +kernel
theorem dX6_times_78 : decode cX6_times 78 = .ok (.iload_n 2, 1) := by decide +kernel
theorem dX6_times_79 : decode cX6_times 79 = .ok (.iload 4, 2) := by decide +kernel
theorem dX6_times_81 : decode cX6_times 81 = .ok (.invokevirtual 195, 3) := by decide +kernel
theorem dX6_times_84 : decode cX6_times 84 = .ok (.aload_n 0, 1) := by decide +kernel
theorem dX6_times_85 : decode cX6_times 85 = .ok (.getfield 19, 3) := by decide +kernel
theorem dX6_times_88 : decode cX6_times 88 = .ok (.iload 4, 2) := by decide +kernel
theorem dX6_times_90 : decode cX6_times 90 = .ok (.invokevirtual 127, 3) := by decide +kernel
theorem dX6_times_93 : decode cX6_times 93 = .ok (.ireturn, 1) := by decide +kernel
theorem dX6_equate_0 : decode cX6_equate 0 = .ok (.iload_n 1, 1) := by decide +kernel
theorem dX6_equate_1 : decode cX6_equate 1 = .ok (.ifCond .lt 19, 3) := by decide +kernel
theorem dX6_equate_4 : decode cX6_equate 4 = .ok (.iload_n 1, 1) := by decide +kernel
theorem dX6_equate_5 : decode cX6_equate 5 = .ok (.aload_n 0, 1) := by decide +kernel
theorem dX6_equate_6 : decode cX6_equate 6 = .ok (.getfield 19, 3) := by decide +kernel
theorem dX6_equate_9 : decode cX6_equate 9 = .ok (.invokevirtual 103, 3) := by decide +kernel
theorem dX6_equate_12 : decode cX6_equate 12 = .ok (.if_icmp .gt 8, 3) := by decide +kernel
theorem dX6_equate_15 : decode cX6_equate 15 = .ok (.iload_n 1, 1) := by decide +kernel
theorem dX6_equate_16 : decode cX6_equate 16 = .ok (.iconst 3, 1) := by decide +kernel
theorem dX6_equate_17 : decode cX6_equate 17 = .ok (.if_icmp .lt 5, 3) := by decide +kernel
theorem dX6_equate_20 : decode cX6_equate 20 = .ok (.iconst (-1), 1) := by decide +kernel
theorem dX6_equate_21 : decode cX6_equate 21 = .ok (.ireturn, 1) := by decide +kernel
theorem dX6_equate_22 : decode cX6_equate 22 = .ok (.aload_n 0, 1) := by decide +kernel
theorem dX6_equate_23 : decode cX6_equate 23 = .ok (.getfield 19, 3) := by decide +kernel
theorem dX6_equate_26 : decode cX6_equate 26 = .ok (.iload 5, 2) := by decide +kernel
theorem dX6_equate_28 : decode cX6_equate 28 = .ok (.invokevirtual 189, 3) := by decide +kernel
theorem dX6_equate_31 : decode cX6_equate 31 = .ok (.ifCond .eq 17, 3) := by decide +kernel
theorem dX6_equate_34 : decode cX6_equate 34 = .ok (.aload_n 0, 1) := by decide +kernel
theorem dX6_equate_35 : decode cX6_equate 35 = .ok (.getfield 19, 3) := by decide +kernel
theorem dX6_equate_38 : decode cX6_equate 38 = .ok (.iload_n 2, 1) := by decide +kernel
theorem dX6_equate_39 : decode cX6_equate 39 = .ok (.iload_n 3, 1) := by decide +kernel
theorem dX6_equate_40 : decode cX6_equate 40 = .ok (.iload 4, 2) := by decide +kernel
theorem dX6_equate_42 : decode cX6_equate 42 = .ok (.invokevirtual 198, 3) := by decide +kernel
theorem dX6_equate_45 : decode cX6_equate 45 = .ok (.ifCond .ne 5, 3) := by decide +kernel
theorem dX6_equate_48 : decode cX6_equate 48 = .ok (.iconst (-1), 1) := by decide +kernel
theorem dX6_equate_49 : decode cX6_equate 49 = .ok (.ireturn, 1) := by decide +kernel
theorem dX6_equate_50 : decode cX6_equate 50 = .ok (.aload_n 0, 1) := by decide +kernel
theorem dX6_equate_51 : decode cX6_equate 51 = .ok (.getfield 26, 3) := by decide +kernel
theorem dX6_equate_54 : decode cX6_equate 54 = .ok (.aload_n 0, 1) := by decide +kernel
theorem dX6_equate_55 : decode cX6_equate 55 = .ok (.getfield 19, 3) := by decide +kernel
theorem dX6_equate_58 : decode cX6_equate 58 = .ok (.invokevirtual 167, 3) := by decide +kernel
theorem dX6_equate_61 : decode cX6_equate 61 = .ok (.iload_n 1, 1) := by decide +kernel
theorem dX6_equate_62 : decode cX6_equate 62 = .ok (.aload_n 0, 1) := by decide +kernel
theorem dX6_equate_63 : decode cX6_equate 63 = .ok (.getfield 19, 3) := by decide +kernel
theorem dX6_equate_66 : decode cX6_equate 66 = .ok (.invokevirtual 103, 3) := by decide +kernel
theorem dX6_equate_69 : decode cX6_equate 69 = .ok (.if_icmp .ne 13, 3) := by decide +kernel
theorem dX6_equate_72 : decode cX6_equate 72 = .ok (.aload_n 0, 1) := by decide +kernel
theorem dX6_equate_73 : decode cX6_equate 73 = .ok (.getfield 19, 3) := by decide +kernel
theorem dX6_equate_76 : decode cX6_equate 76 = .ok (.iload_n 1, 1) := by decide +kernel
theorem dX6_equate_77 : decode cX6_equate 77 = .ok (.iconst 1, 1) := by decide +kernel
theorem dX6_equate_78 : decode cX6_equate 78 = .ok (.iadd, 1) := by decide +kernel
theorem dX6_equate_79 : decode cX6_equate 79 = .ok (.invokevirtual 202, 3) := by decide +kernel
theorem dX6_equate_82 : decode cX6_equate 82 = .ok (.aload_n 0, 1) := by decide +kernel
theorem dX6_equate_83 : decode cX6_equate 83 = .ok (.iload_n 2, 1) := by decide +kernel
theorem dX6_equate_84 : decode cX6_equate 84 = .ok (.iload_n 3, 1) := by decide +kernel
theorem dX6_equate_85 : decode cX6_equate 85 = .ok (.iload 4, 2) := by decide +kernel
theorem dX6_equate_87 : decode cX6_equate 87 = .ok (.invokevirtual 205, 3) := by decide +kernel
theorem dX6_equate_90 : decode cX6_equate 90 = .ok (.aload_n 0, 1) := by decide +kernel
theorem dX6_equate_91 : decode cX6_equate 91 = .ok (.getfield 19, 3) := by decide +kernel
theorem dX6_equate_94 : decode cX6_equate 94 = .ok (.iload_n 1, 1) := by decide +kernel
theorem dX6_equate_95 : decode cX6_equate 95 = .ok (.aload_n 0, 1) := by decide +kernel
theorem dX6_equate_96 : decode cX6_equate 96 = .ok (.getfield 55, 3) := by decide +kernel
theorem dX6_equate_99 : decode cX6_equate 99 = .ok (.iload 5, 2) := by decide +kernel
theorem dX6_equate_101 : decode cX6_equate 101 = .ok (.invokevirtual 209, 3) := by decide +kernel
theorem dX6_equate_104 : decode cX6_equate 104 = .ok (.aload_n 0, 1) := by decide +kernel
theorem dX6_equate_105 : decode cX6_equate 105 = .ok (.getfield 19, 3) := by decide +kernel
theorem dX6_equate_108 : decode cX6_equate 108 = .ok (.invokevirtual 103, 3) := by decide +kernel
theorem dX6_equate_111 : decode cX6_equate 111 = .ok (.ireturn, 1) := by decide +kernel
theorem dX6_drop_0 : decode cX6_drop 0 = .ok (.iload_n 1, 1) := by decide +kernel
theorem dX6_drop_1 : decode cX6_drop 1 = .ok (.ifCond .lt 14, 3) := by decide +kernel
theorem dX6_drop_4 : decode cX6_drop 4 = .ok (.iload_n 1, 1) := by decide +kernel
theorem dX6_drop_5 : decode cX6_drop 5 = .ok (.aload_n 0, 1) := by decide +kernel
theorem dX6_drop_6 : decode cX6_drop 6 = .ok (.getfield 19, 3) := by decide +kernel
theorem dX6_drop_9 : decode cX6_drop 9 = .ok (.invokevirtual 103, 3) := by decide +kernel
theorem dX6_drop_12 : decode cX6_drop 12 = .ok (.if_icmp .lt 5, 3) := by decide +kernel
theorem dX6_drop_15 : decode cX6_drop 15 = .ok (.iconst (-1), 1) := by decide +kernel
theorem dX6_drop_16 : decode cX6_drop 16 = .ok (.ireturn, 1) := by decide +kernel
theorem dX6_drop_17 : decode cX6_drop 17 = .ok (.aload_n 0, 1) := by decide +kernel
theorem dX6_drop_18 : decode cX6_drop 18 = .ok (.getfield 26, 3) := by decide +kernel
theorem dX6_drop_21 : decode cX6_drop 21 = .ok (.aload_n 0, 1) := by decide +kernel
theorem dX6_drop_22 : decode cX6_drop 22 = .ok (.getfield 19, 3) := by decide +kernel
theorem dX6_drop_25 : decode cX6_drop 25 = .ok (.invokevirtual 167, 3) := by decide +kernel
theorem dX6_drop_28 : decode cX6_drop 28 = .ok (.aload_n 0, 1) := by decide +kernel
theorem dX6_drop_29 : decode cX6_drop 29 = .ok (.getfield 19, 3) := by decide +kernel
theorem dX6_drop_32 : decode cX6_drop 32 = .ok (.iload_n 1, 1) := by decide +kernel
theorem dX6_drop_33 : decode cX6_drop 33 = .ok (.invokevirtual 213, 3) := by decide +kernel
theorem dX6_drop_36 : decode cX6_drop 36 = .ok (.aload_n 0, 1) := by decide +kernel
theorem dX6_drop_37 : decode cX6_drop 37 = .ok (.getfield 19, 3) := by decide +kernel
theorem dX6_drop_40 : decode cX6_drop 40 = .ok (.invokevirtual 103, 3) := by decide +kernel
theorem dX6_drop_43 : decode cX6_drop 43 = .ok (.ireturn, 1) := by decide +kernel
theorem dX6_equation_0 : decode cX6_equation 0 = .ok (.iload_n 1, 1) := by decide +kernel
theorem dX6_equation_1 : decode cX6_equation 1 = .ok (.ifCond .lt 23, 3) := by decide +kernel
theorem dX6_equation_4 : decode cX6_equation 4 = .ok (.iload_n 1, 1) := by decide +kernel
theorem dX6_equation_5 : decode cX6_equation 5 = .ok (.aload_n 0, 1) := by decide +kernel
theorem dX6_equation_6 : decode cX6_equation 6 = .ok (.getfield 19, 3) := by decide +kernel
theorem dX6_equation_9 : decode cX6_equation 9 = .ok (.invokevirtual 103, 3) := by decide +kernel
theorem dX6_equation_12 : decode cX6_equation 12 = .ok (.if_icmp .ge 12, 3) := by decide +kernel
theorem dX6_equation_15 : decode cX6_equation 15 = .ok (.iload_n 2, 1) := by decide +kernel
theorem dX6_equation_16 : decode cX6_equation 16 = .ok (.ifCond .lt 8, 3) := by decide +kernel
theorem dX6_equation_19 : decode cX6_equation 19 = .ok (.iload_n 2, 1) := by decide +kernel
theorem dX6_equation_20 : decode cX6_equation 20 = .ok (.iconst 3, 1) := by decide +kernel
theorem dX6_equation_21 : decode cX6_equation 21 = .ok (.if_icmp .le 5, 3) := by decide +kernel
theorem dX6_equation_24 : decode cX6_equation 24 = .ok (.iconst (-1), 1) := by decide +kernel
theorem dX6_equation_25 : decode cX6_equation 25 = .ok (.ireturn, 1) := by decide +kernel
theorem dX6_equation_26 : decode cX6_equation 26 = .ok (.aload_n 0, 1) := by decide +kernel
theorem dX6_equation_27 : decode cX6_equation 27 = .ok (.getfield 19, 3) := by decide +kernel
theorem dX6_equation_30 : decode cX6_equation 30 = .ok (.iload_n 1, 1) := by decide +kernel
theorem dX6_equation_31 : decode cX6_equation 31 = .ok (.iload_n 2, 1) := by decide +kernel
theorem dX6_equation_32 : decode cX6_equation 32 = .ok (.invokevirtual 216, 3) := by decide +kernel
theorem dX6_equation_35 : decode cX6_equation 35 = .ok (.ireturn, 1) := by decide +kernel
theorem dX6_solutions_0 : decode cX6_solutions 0 = .ok (.aload_n 0, 1) := by decide +kernel
theorem dX6_solutions_1 : decode cX6_solutions 1 = .ok (.getfield 19, 3) := by decide +kernel
theorem dX6_solutions_4 : decode cX6_solutions 4 = .ok (.invokevirtual 97, 3) := by decide +kernel
theorem dX6_solutions_7 : decode cX6_solutions 7 = .ok (.ifCond .le 17, 3) := by decide +kernel
theorem dX6_solutions_10 : decode cX6_solutions 10 = .ok (.aload_n 0, 1) := by decide +kernel
theorem dX6_solutions_11 : decode cX6_solutions 11 = .ok (.getfield 33, 3) := by decide +kernel
theorem dX6_solutions_14 : decode cX6_solutions 14 = .ok (.aload_n 0, 1) := by decide +kernel
theorem dX6_solutions_15 : decode cX6_solutions 15 = .ok (.getfield 19, 3) := by decide +kernel
theorem dX6_solutions_18 : decode cX6_solutions 18 = .ok (.invokevirtual 220, 3) := by decide +kernel
theorem dX6_solutions_21 : decode cX6_solutions 21 = .ok (.goto 4, 3) := by decide +kernel
theorem dX6_solutions_24 : decode cX6_solutions 24 = .ok (.iconst (-1), 1) := by decide +kernel
theorem dX6_solutions_25 : decode cX6_solutions 25 = .ok (.ireturn, 1) := by decide +kernel
theorem dX6_solution_0 : decode cX6_solution 0 = .ok (.aload_n 0, 1) := by decide +kernel
theorem dX6_solution_1 : decode cX6_solution 1 = .ok (.getfield 19, 3) := by decide +kernel
theorem dX6_solution_4 : decode cX6_solution 4 = .ok (.invokevirtual 97, 3) := by decide +kernel
theorem dX6_solution_7 : decode cX6_solution 7 = .ok (.ifCond .eq 21, 3) := by decide +kernel
theorem dX6_solution_10 : decode cX6_solution 10 = .ok (.aload_n 0, 1) := by decide +kernel
theorem dX6_solution_11 : decode cX6_solution 11 = .ok (.getfield 33, 3) := by decide +kernel
theorem dX6_solution_14 : decode cX6_solution 14 = .ok (.aload_n 0, 1) := by decide +kernel
theorem dX6_solution_15 : decode cX6_solution 15 = .ok (.getfield 19, 3) := by decide +kernel
theorem dX6_solution_18 : decode cX6_solution 18 = .ok (.aload_n 0, 1) := by decide +kernel
theorem dX6_solution_19 : decode cX6_solution 19 = .ok (.getfield 55, 3) := by decide +kernel
theorem dX6_solution_22 : decode cX6_solution 22 = .ok (.invokevirtual 224, 3) := by decide +kernel
theorem dX6_solution_25 : decode cX6_solution 25 = .ok (.ifCond .ne 5, 3) := by decide +kernel
theorem dX6_solution_28 : decode cX6_solution 28 = .ok (.iconst (-1), 1) := by decide +kernel
theorem dX6_solution_29 : decode cX6_solution 29 = .ok (.ireturn, 1) := by decide +kernel
theorem dX6_solution_30 : decode cX6_solution 30 = .ok (.aload_n 0, 1) := by decide +kernel
theorem dX6_solution_31 : decode cX6_solution 31 = .ok (.invokevirtual 121, 3) := by decide +kernel
theorem dX6_solution_34 : decode cX6_solution 34 = .ok (.ireturn, 1) := by decide +kernel
theorem dX6_witness_0 : decode cX6_witness 0 = .ok (.aload_n 0, 1) := by decide +kernel
theorem dX6_witness_1 : decode cX6_witness 1 = .ok (.getfield 19, 3) := by decide +kernel
theorem dX6_witness_4 : decode cX6_witness 4 = .ok (.invokevirtual 97, 3) := by decide +kernel
theorem dX6_witness_7 : decode cX6_witness 7 = .ok (.ifCond .eq 21, 3) := by decide +kernel
theorem dX6_witness_10 : decode cX6_witness 10 = .ok (.aload_n 0, 1) := by decide +kernel
theorem dX6_witness_11 : decode cX6_witness 11 = .ok (.getfield 33, 3) := by decide +kernel
theorem dX6_witness_14 : decode cX6_witness 14 = .ok (.aload_n 0, 1) := by decide +kernel
theorem dX6_witness_15 : decode cX6_witness 15 = .ok (.getfield 19, 3) := by decide +kernel
theorem dX6_witness_18 : decode cX6_witness 18 = .ok (.aload_n 0, 1) := by decide +kernel
theorem dX6_witness_19 : decode cX6_witness 19 = .ok (.getfield 55, 3) := by decide +kernel
theorem dX6_witness_22 : decode cX6_witness 22 = .ok (.invokevirtual 228, 3) := by decide +kernel
theorem dX6_witness_25 : decode cX6_witness 25 = .ok (.ifCond .ne 5, 3) := by decide +kernel
theorem dX6_witness_28 : decode cX6_witness 28 = .ok (.iconst (-1), 1) := by decide +kernel
theorem dX6_witness_29 : decode cX6_witness 29 = .ok (.ireturn, 1) := by decide +kernel
theorem dX6_witness_30 : decode cX6_witness 30 = .ok (.aload_n 0, 1) := by decide +kernel
theorem dX6_witness_31 : decode cX6_witness 31 = .ok (.invokevirtual 121, 3) := by decide +kernel
theorem dX6_witness_34 : decode cX6_witness 34 = .ok (.ireturn, 1) := by decide +kernel
theorem dX6_kernel_0 : decode cX6_kernel 0 = .ok (.aload_n 0, 1) := by decide +kernel
theorem dX6_kernel_1 : decode cX6_kernel 1 = .ok (.getfield 19, 3) := by decide +kernel
theorem dX6_kernel_4 : decode cX6_kernel 4 = .ok (.iload_n 1, 1) := by decide +kernel
theorem dX6_kernel_5 : decode cX6_kernel 5 = .ok (.invokevirtual 124, 3) := by decide +kernel
theorem dX6_kernel_8 : decode cX6_kernel 8 = .ok (.ifCond .ne 5, 3) := by decide +kernel
theorem dX6_kernel_11 : decode cX6_kernel 11 = .ok (.iconst (-1), 1) := by decide +kernel
theorem dX6_kernel_12 : decode cX6_kernel 12 = .ok (.ireturn, 1) := by decide +kernel
theorem dX6_kernel_13 : decode cX6_kernel 13 = .ok (.aload_n 0, 1) := by decide +kernel
theorem dX6_kernel_14 : decode cX6_kernel 14 = .ok (.getfield 26, 3) := by decide +kernel
theorem dX6_kernel_17 : decode cX6_kernel 17 = .ok (.aload_n 0, 1) := by decide +kernel
theorem dX6_kernel_18 : decode cX6_kernel 18 = .ok (.getfield 19, 3) := by decide +kernel
theorem dX6_kernel_21 : decode cX6_kernel 21 = .ok (.invokevirtual 167, 3) := by decide +kernel
theorem dX6_kernel_24 : decode cX6_kernel 24 = .ok (.aload_n 0, 1) := by decide +kernel
theorem dX6_kernel_25 : decode cX6_kernel 25 = .ok (.getfield 33, 3) := by decide +kernel
theorem dX6_kernel_28 : decode cX6_kernel 28 = .ok (.aload_n 0, 1) := by decide +kernel
theorem dX6_kernel_29 : decode cX6_kernel 29 = .ok (.getfield 19, 3) := by decide +kernel
theorem dX6_kernel_32 : decode cX6_kernel 32 = .ok (.iload_n 1, 1) := by decide +kernel
theorem dX6_kernel_33 : decode cX6_kernel 33 = .ok (.invokevirtual 231, 3) := by decide +kernel
theorem dX6_kernel_36 : decode cX6_kernel 36 = .ok (.aload_n 0, 1) := by decide +kernel
theorem dX6_kernel_37 : decode cX6_kernel 37 = .ok (.getfield 19, 3) := by decide +kernel
theorem dX6_kernel_40 : decode cX6_kernel 40 = .ok (.iload_n 1, 1) := by decide +kernel
theorem dX6_kernel_41 : decode cX6_kernel 41 = .ok (.invokevirtual 127, 3) := by decide +kernel
theorem dX6_kernel_44 : decode cX6_kernel 44 = .ok (.ireturn, 1) := by decide +kernel
theorem dX6_sides_0 : decode cX6_sides 0 = .ok (.aload_n 0, 1) := by decide +kernel
theorem dX6_sides_1 : decode cX6_sides 1 = .ok (.getfield 19, 3) := by decide +kernel
theorem dX6_sides_4 : decode cX6_sides 4 = .ok (.iload_n 1, 1) := by decide +kernel
theorem dX6_sides_5 : decode cX6_sides 5 = .ok (.invokevirtual 124, 3) := by decide +kernel
theorem dX6_sides_8 : decode cX6_sides 8 = .ok (.ifCond .ne 5, 3) := by decide +kernel
theorem dX6_sides_11 : decode cX6_sides 11 = .ok (.iconst (-1), 1) := by decide +kernel
theorem dX6_sides_12 : decode cX6_sides 12 = .ok (.ireturn, 1) := by decide +kernel
theorem dX6_sides_13 : decode cX6_sides 13 = .ok (.aload_n 0, 1) := by decide +kernel
theorem dX6_sides_14 : decode cX6_sides 14 = .ok (.getfield 26, 3) := by decide +kernel
theorem dX6_sides_17 : decode cX6_sides 17 = .ok (.aload_n 0, 1) := by decide +kernel
theorem dX6_sides_18 : decode cX6_sides 18 = .ok (.getfield 19, 3) := by decide +kernel
theorem dX6_sides_21 : decode cX6_sides 21 = .ok (.invokevirtual 167, 3) := by decide +kernel
theorem dX6_sides_24 : decode cX6_sides 24 = .ok (.iconst 0, 1) := by decide +kernel
theorem dX6_sides_25 : decode cX6_sides 25 = .ok (.istore_n 2, 1) := by decide +kernel
theorem dX6_sides_26 : decode cX6_sides 26 = .ok (.iconst 0, 1) := by decide +kernel
theorem dX6_sides_27 : decode cX6_sides 27 = .ok (.istore_n 3, 1) := by decide +kernel
theorem dX6_sides_28 : decode cX6_sides 28 = .ok (.iload_n 3, 1) := by decide +kernel
theorem dX6_sides_29 : decode cX6_sides 29 = .ok (.aload_n 0, 1) := by decide +kernel
theorem dX6_sides_30 : decode cX6_sides 30 = .ok (.getfield 19, 3) := by decide +kernel
theorem dX6_sides_33 : decode cX6_sides 33 = .ok (.invokevirtual 100, 3) := by decide +kernel
theorem dX6_sides_36 : decode cX6_sides 36 = .ok (.if_icmp .ge 51, 3) := by decide +kernel
theorem dX6_sides_39 : decode cX6_sides 39 = .ok (.aload_n 0, 1) := by decide +kernel
theorem dX6_sides_40 : decode cX6_sides 40 = .ok (.getfield 19, 3) := by decide +kernel
theorem dX6_sides_43 : decode cX6_sides 43 = .ok (.iload_n 1, 1) := by decide +kernel
theorem dX6_sides_44 : decode cX6_sides 44 = .ok (.iload_n 3, 1) := by decide +kernel
theorem dX6_sides_45 : decode cX6_sides 45 = .ok (.iload_n 3, 1) := by decide +kernel
theorem dX6_sides_46 : decode cX6_sides 46 = .ok (.invokevirtual 113, 3) := by decide +kernel
theorem dX6_sides_49 : decode cX6_sides 49 = .ok (.ifCond .le 32, 3) := by decide +kernel
theorem dX6_sides_52 : decode cX6_sides 52 = .ok (.aload_n 0, 1) := by decide +kernel
theorem dX6_sides_53 : decode cX6_sides 53 = .ok (.getfield 19, 3) := by decide +kernel
theorem dX6_sides_56 : decode cX6_sides 56 = .ok (.iload_n 1, 1) := by decide +kernel
theorem dX6_sides_57 : decode cX6_sides 57 = .ok (.iload_n 3, 1) := by decide +kernel
theorem dX6_sides_58 : decode cX6_sides 58 = .ok (.aload_n 0, 1) := by decide +kernel
theorem dX6_sides_59 : decode cX6_sides 59 = .ok (.getfield 55, 3) := by decide +kernel
theorem dX6_sides_62 : decode cX6_sides 62 = .ok (.invokevirtual 117, 3) := by decide +kernel
theorem dX6_sides_65 : decode cX6_sides 65 = .ok (.aload_n 0, 1) := by decide +kernel
theorem dX6_sides_66 : decode cX6_sides 66 = .ok (.getfield 19, 3) := by decide +kernel
theorem dX6_sides_69 : decode cX6_sides 69 = .ok (.iload_n 2, 1) := by decide +kernel
theorem dX6_sides_70 : decode cX6_sides 70 = .ok (.aload_n 0, 1) := by decide +kernel
theorem dX6_sides_71 : decode cX6_sides 71 = .ok (.getfield 55, 3) := by decide +kernel
theorem dX6_sides_74 : decode cX6_sides 74 = .ok (.iconst 0, 1) := by decide +kernel
theorem dX6_sides_75 : decode cX6_sides 75 = .ok (.invokevirtual 209, 3) := by decide +kernel
theorem dX6_sides_78 : decode cX6_sides 78 = .ok (.iinc 2 1, 3) := by decide +kernel
theorem dX6_sides_81 : decode cX6_sides 81 = .ok (.iinc 3 1, 3) := by decide +kernel
theorem dX6_sides_84 : decode cX6_sides 84 = .ok (.goto (-56), 3) := by decide +kernel
theorem dX6_sides_87 : decode cX6_sides 87 = .ok (.aload_n 0, 1) := by decide +kernel
theorem dX6_sides_88 : decode cX6_sides 88 = .ok (.getfield 19, 3) := by decide +kernel
theorem dX6_sides_91 : decode cX6_sides 91 = .ok (.iload_n 2, 1) := by decide +kernel
theorem dX6_sides_92 : decode cX6_sides 92 = .ok (.invokevirtual 202, 3) := by decide +kernel
theorem dX6_sides_95 : decode cX6_sides 95 = .ok (.iload_n 2, 1) := by decide +kernel
theorem dX6_sides_96 : decode cX6_sides 96 = .ok (.ireturn, 1) := by decide +kernel
theorem dX6_drawn_0 : decode cX6_drawn 0 = .ok (.iload_n 1, 1) := by decide +kernel
theorem dX6_drawn_1 : decode cX6_drawn 1 = .ok (.iconst 1, 1) := by decide +kernel
theorem dX6_drawn_2 : decode cX6_drawn 2 = .ok (.if_icmp .lt 9, 3) := by decide +kernel
theorem dX6_drawn_5 : decode cX6_drawn 5 = .ok (.iload_n 1, 1) := by decide +kernel
theorem dX6_drawn_6 : decode cX6_drawn 6 = .ok (.bipush 60, 2) := by decide +kernel
theorem dX6_drawn_8 : decode cX6_drawn 8 = .ok (.if_icmp .le 5, 3) := by decide +kernel
theorem dX6_drawn_11 : decode cX6_drawn 11 = .ok (.iconst (-1), 1) := by decide +kernel
theorem dX6_drawn_12 : decode cX6_drawn 12 = .ok (.ireturn, 1) := by decide +kernel
theorem dX6_drawn_13 : decode cX6_drawn 13 = .ok (.aload_n 0, 1) := by decide +kernel
theorem dX6_drawn_14 : decode cX6_drawn 14 = .ok (.getfield 19, 3) := by decide +kernel
theorem dX6_drawn_17 : decode cX6_drawn 17 = .ok (.invokevirtual 97, 3) := by decide +kernel
theorem dX6_drawn_20 : decode cX6_drawn 20 = .ok (.ifCond .ne 5, 3) := by decide +kernel
theorem dX6_drawn_23 : decode cX6_drawn 23 = .ok (.iconst 0, 1) := by decide +kernel
theorem dX6_drawn_24 : decode cX6_drawn 24 = .ok (.ireturn, 1) := by decide +kernel
theorem dX6_drawn_25 : decode cX6_drawn 25 = .ok (.aload_n 0, 1) := by decide +kernel
theorem dX6_drawn_26 : decode cX6_drawn 26 = .ok (.getfield 26, 3) := by decide +kernel
theorem dX6_drawn_29 : decode cX6_drawn 29 = .ok (.aload_n 0, 1) := by decide +kernel
theorem dX6_drawn_30 : decode cX6_drawn 30 = .ok (.getfield 19, 3) := by decide +kernel
theorem dX6_drawn_33 : decode cX6_drawn 33 = .ok (.invokevirtual 167, 3) := by decide +kernel
theorem dX6_drawn_36 : decode cX6_drawn 36 = .ok (.aload_n 0, 1) := by decide +kernel
theorem dX6_drawn_37 : decode cX6_drawn 37 = .ok (.iload_n 2, 1) := by decide +kernel
theorem dX6_drawn_38 : decode cX6_drawn 38 = .ok (.putfield 235, 3) := by decide +kernel
theorem dX6_drawn_41 : decode cX6_drawn 41 = .ok (.iconst 0, 1) := by decide +kernel
theorem dX6_drawn_42 : decode cX6_drawn 42 = .ok (.istore_n 3, 1) := by decide +kernel
theorem dX6_drawn_43 : decode cX6_drawn 43 = .ok (.iload_n 3, 1) := by decide +kernel
theorem dX6_drawn_44 : decode cX6_drawn 44 = .ok (.iload_n 1, 1) := by decide +kernel
theorem dX6_drawn_45 : decode cX6_drawn 45 = .ok (.if_icmp .ge 13, 3) := by decide +kernel
theorem dX6_drawn_48 : decode cX6_drawn 48 = .ok (.aload_n 0, 1) := by decide +kernel
theorem dX6_drawn_49 : decode cX6_drawn 49 = .ok (.invokevirtual 238, 3) := by decide +kernel
theorem dX6_drawn_52 : decode cX6_drawn 52 = .ok (.iinc 3 1, 3) := by decide +kernel
theorem dX6_drawn_55 : decode cX6_drawn 55 = .ok (.goto (-12), 3) := by decide +kernel
theorem dX6_drawn_58 : decode cX6_drawn 58 = .ok (.iconst 0, 1) := by decide +kernel
theorem dX6_drawn_59 : decode cX6_drawn 59 = .ok (.istore_n 3, 1) := by decide +kernel
theorem dX6_drawn_60 : decode cX6_drawn 60 = .ok (.iconst 0, 1) := by decide +kernel
theorem dX6_drawn_61 : decode cX6_drawn 61 = .ok (.istore 4, 2) := by decide +kernel
theorem dX6_drawn_63 : decode cX6_drawn 63 = .ok (.iload 4, 2) := by decide +kernel
theorem dX6_drawn_65 : decode cX6_drawn 65 = .ok (.iconst 4, 1) := by decide +kernel
theorem dX6_drawn_66 : decode cX6_drawn 66 = .ok (.if_icmp .ge 21, 3) := by decide +kernel
theorem dX6_drawn_69 : decode cX6_drawn 69 = .ok (.iload_n 3, 1) := by decide +kernel
theorem dX6_drawn_70 : decode cX6_drawn 70 = .ok (.aload_n 0, 1) := by decide +kernel
theorem dX6_drawn_71 : decode cX6_drawn 71 = .ok (.getfield 19, 3) := by decide +kernel
theorem dX6_drawn_74 : decode cX6_drawn 74 = .ok (.iload 4, 2) := by decide +kernel
theorem dX6_drawn_76 : decode cX6_drawn 76 = .ok (.invokevirtual 127, 3) := by decide +kernel
theorem dX6_drawn_79 : decode cX6_drawn 79 = .ok (.iadd, 1) := by decide +kernel
theorem dX6_drawn_80 : decode cX6_drawn 80 = .ok (.istore_n 3, 1) := by decide +kernel
theorem dX6_drawn_81 : decode cX6_drawn 81 = .ok (.iinc 4 1, 3) := by decide +kernel
theorem dX6_drawn_84 : decode cX6_drawn 84 = .ok (.goto (-21), 3) := by decide +kernel
theorem dX6_drawn_87 : decode cX6_drawn 87 = .ok (.iload_n 3, 1) := by decide +kernel
theorem dX6_drawn_88 : decode cX6_drawn 88 = .ok (.ireturn, 1) := by decide +kernel
theorem dX6_undo_0 : decode cX6_undo 0 = .ok (.aload_n 0, 1) := by decide +kernel
theorem dX6_undo_1 : decode cX6_undo 1 = .ok (.getfield 26, 3) := by decide +kernel
theorem dX6_undo_4 : decode cX6_undo 4 = .ok (.aload_n 0, 1) := by decide +kernel
theorem dX6_undo_5 : decode cX6_undo 5 = .ok (.getfield 19, 3) := by decide +kernel
theorem dX6_undo_8 : decode cX6_undo 8 = .ok (.invokevirtual 241, 3) := by decide +kernel
theorem dX6_undo_11 : decode cX6_undo 11 = .ok (.ifCond .eq 13, 3) := by decide +kernel
theorem dX6_undo_14 : decode cX6_undo 14 = .ok (.aload_n 0, 1) := by decide +kernel
theorem dX6_undo_15 : decode cX6_undo 15 = .ok (.getfield 26, 3) := by decide +kernel
theorem dX6_undo_18 : decode cX6_undo 18 = .ok (.invokevirtual 106, 3) := by decide +kernel
theorem dX6_undo_21 : decode cX6_undo 21 = .ok (.goto 4, 3) := by decide +kernel
theorem dX6_undo_24 : decode cX6_undo 24 = .ok (.iconst (-1), 1) := by decide +kernel
theorem dX6_undo_25 : decode cX6_undo 25 = .ok (.ireturn, 1) := by decide +kernel
theorem dX6_image_0 : decode cX6_image 0 = .ok (.iload_n 1, 1) := by decide +kernel
theorem dX6_image_1 : decode cX6_image 1 = .ok (.ifCond .lt 8, 3) := by decide +kernel
theorem dX6_image_4 : decode cX6_image 4 = .ok (.iload_n 1, 1) := by decide +kernel
theorem dX6_image_5 : decode cX6_image 5 = .ok (.iconst 2, 1) := by decide +kernel
theorem dX6_image_6 : decode cX6_image 6 = .ok (.if_icmp .lt 5, 3) := by decide +kernel
theorem dX6_image_9 : decode cX6_image 9 = .ok (.iconst 0, 1) := by decide +kernel
theorem dX6_image_10 : decode cX6_image 10 = .ok (.ireturn, 1) := by decide +kernel
theorem dX6_image_11 : decode cX6_image 11 = .ok (.aload_n 0, 1) := by decide +kernel
theorem dX6_image_12 : decode cX6_image 12 = .ok (.getfield 19, 3) := by decide +kernel
theorem dX6_image_15 : decode cX6_image 15 = .ok (.aload_n 0, 1) := by decide +kernel
theorem dX6_image_16 : decode cX6_image 16 = .ok (.getfield 48, 3) := by decide +kernel
theorem dX6_image_19 : decode cX6_image 19 = .ok (.iload_n 1, 1) := by decide +kernel
theorem dX6_image_20 : decode cX6_image 20 = .ok (.aaload, 1) := by decide +kernel
theorem dX6_image_21 : decode cX6_image 21 = .ok (.invokevirtual 245, 3) := by decide +kernel
theorem dX6_image_24 : decode cX6_image 24 = .ok (.aload_n 0, 1) := by decide +kernel
theorem dX6_image_25 : decode cX6_image 25 = .ok (.getfield 51, 3) := by decide +kernel
theorem dX6_image_28 : decode cX6_image 28 = .ok (.iload_n 1, 1) := by decide +kernel
theorem dX6_image_29 : decode cX6_image 29 = .ok (.iconst 1, 1) := by decide +kernel
theorem dX6_image_30 : decode cX6_image 30 = .ok (.bastore, 1) := by decide +kernel
theorem dX6_image_31 : decode cX6_image 31 = .ok (.iconst 1, 1) := by decide +kernel
theorem dX6_image_32 : decode cX6_image 32 = .ok (.ireturn, 1) := by decide +kernel
theorem dX6_restore_0 : decode cX6_restore 0 = .ok (.iload_n 1, 1) := by decide +kernel
theorem dX6_restore_1 : decode cX6_restore 1 = .ok (.ifCond .lt 17, 3) := by decide +kernel
theorem dX6_restore_4 : decode cX6_restore 4 = .ok (.iload_n 1, 1) := by decide +kernel
theorem dX6_restore_5 : decode cX6_restore 5 = .ok (.iconst 2, 1) := by decide +kernel
theorem dX6_restore_6 : decode cX6_restore 6 = .ok (.if_icmp .ge 12, 3) := by decide +kernel
theorem dX6_restore_9 : decode cX6_restore 9 = .ok (.aload_n 0, 1) := by decide +kernel
theorem dX6_restore_10 : decode cX6_restore 10 = .ok (.getfield 51, 3) := by decide +kernel
theorem dX6_restore_13 : decode cX6_restore 13 = .ok (.iload_n 1, 1) := by decide +kernel
theorem dX6_restore_14 : decode cX6_restore 14 = .ok (.baload, 1) := by decide +kernel
theorem dX6_restore_15 : decode cX6_restore 15 = .ok (.ifCond .ne 5, 3) := by decide +kernel
theorem dX6_restore_18 : decode cX6_restore 18 = .ok (.iconst 0, 1) := by decide +kernel
theorem dX6_restore_19 : decode cX6_restore 19 = .ok (.ireturn, 1) := by decide +kernel
theorem dX6_restore_20 : decode cX6_restore 20 = .ok (.aload_n 0, 1) := by decide +kernel
theorem dX6_restore_21 : decode cX6_restore 21 = .ok (.getfield 19, 3) := by decide +kernel
theorem dX6_restore_24 : decode cX6_restore 24 = .ok (.aload_n 0, 1) := by decide +kernel
theorem dX6_restore_25 : decode cX6_restore 25 = .ok (.getfield 48, 3) := by decide +kernel
theorem dX6_restore_28 : decode cX6_restore 28 = .ok (.iload_n 1, 1) := by decide +kernel
theorem dX6_restore_29 : decode cX6_restore 29 = .ok (.aaload, 1) := by decide +kernel
theorem dX6_restore_30 : decode cX6_restore 30 = .ok (.invokevirtual 249, 3) := by decide +kernel
theorem dX6_restore_33 : decode cX6_restore 33 = .ok (.aload_n 0, 1) := by decide +kernel
theorem dX6_restore_34 : decode cX6_restore 34 = .ok (.getfield 26, 3) := by decide +kernel
theorem dX6_restore_37 : decode cX6_restore 37 = .ok (.invokevirtual 91, 3) := by decide +kernel
theorem dX6_restore_40 : decode cX6_restore 40 = .ok (.iconst 1, 1) := by decide +kernel
theorem dX6_restore_41 : decode cX6_restore 41 = .ok (.ireturn, 1) := by decide +kernel
theorem dX6_hasColumn_0 : decode cX6_hasColumn 0 = .ok (.aload_n 0, 1) := by decide +kernel
theorem dX6_hasColumn_1 : decode cX6_hasColumn 1 = .ok (.getfield 19, 3) := by decide +kernel
theorem dX6_hasColumn_4 : decode cX6_hasColumn 4 = .ok (.iload_n 1, 1) := by decide +kernel
theorem dX6_hasColumn_5 : decode cX6_hasColumn 5 = .ok (.invokevirtual 124, 3) := by decide +kernel
theorem dX6_hasColumn_8 : decode cX6_hasColumn 8 = .ok (.ifCond .eq 22, 3) := by decide +kernel
theorem dX6_hasColumn_11 : decode cX6_hasColumn 11 = .ok (.iload_n 2, 1) := by decide +kernel
theorem dX6_hasColumn_12 : decode cX6_hasColumn 12 = .ok (.ifCond .lt 18, 3) := by decide +kernel
theorem dX6_hasColumn_15 : decode cX6_hasColumn 15 = .ok (.iload_n 2, 1) := by decide +kernel
theorem dX6_hasColumn_16 : decode cX6_hasColumn 16 = .ok (.aload_n 0, 1) := by decide +kernel
theorem dX6_hasColumn_17 : decode cX6_hasColumn 17 = .ok (.getfield 19, 3) := by decide +kernel
theorem dX6_hasColumn_20 : decode cX6_hasColumn 20 = .ok (.invokevirtual 100, 3) := by decide +kernel
theorem dX6_hasColumn_23 : decode cX6_hasColumn 23 = .ok (.if_icmp .ge 7, 3) := by decide +kernel
theorem dX6_hasColumn_26 : decode cX6_hasColumn 26 = .ok (.iconst 1, 1) := by decide +kernel
theorem dX6_hasColumn_27 : decode cX6_hasColumn 27 = .ok (.goto 4, 3) := by decide +kernel
theorem dX6_hasColumn_30 : decode cX6_hasColumn 30 = .ok (.iconst 0, 1) := by decide +kernel
theorem dX6_hasColumn_31 : decode cX6_hasColumn 31 = .ok (.ireturn, 1) := by decide +kernel
theorem dX6_takeRow_0 : decode cX6_takeRow 0 = .ok (.aload_n 0, 1) := by decide +kernel
theorem dX6_takeRow_1 : decode cX6_takeRow 1 = .ok (.getfield 19, 3) := by decide +kernel
theorem dX6_takeRow_4 : decode cX6_takeRow 4 = .ok (.iload_n 1, 1) := by decide +kernel
theorem dX6_takeRow_5 : decode cX6_takeRow 5 = .ok (.invokevirtual 124, 3) := by decide +kernel
theorem dX6_takeRow_8 : decode cX6_takeRow 8 = .ok (.ifCond .eq 17, 3) := by decide +kernel
theorem dX6_takeRow_11 : decode cX6_takeRow 11 = .ok (.aload_n 0, 1) := by decide +kernel
theorem dX6_takeRow_12 : decode cX6_takeRow 12 = .ok (.getfield 19, 3) := by decide +kernel
theorem dX6_takeRow_15 : decode cX6_takeRow 15 = .ok (.iload_n 2, 1) := by decide +kernel
theorem dX6_takeRow_16 : decode cX6_takeRow 16 = .ok (.iload_n 3, 1) := by decide +kernel
theorem dX6_takeRow_17 : decode cX6_takeRow 17 = .ok (.iload 4, 2) := by decide +kernel
theorem dX6_takeRow_19 : decode cX6_takeRow 19 = .ok (.invokevirtual 198, 3) := by decide +kernel
theorem dX6_takeRow_22 : decode cX6_takeRow 22 = .ok (.ifCond .ne 5, 3) := by decide +kernel
theorem dX6_takeRow_25 : decode cX6_takeRow 25 = .ok (.iconst 0, 1) := by decide +kernel
theorem dX6_takeRow_26 : decode cX6_takeRow 26 = .ok (.ireturn, 1) := by decide +kernel
theorem dX6_takeRow_27 : decode cX6_takeRow 27 = .ok (.aload_n 0, 1) := by decide +kernel
theorem dX6_takeRow_28 : decode cX6_takeRow 28 = .ok (.iload_n 2, 1) := by decide +kernel
theorem dX6_takeRow_29 : decode cX6_takeRow 29 = .ok (.iload_n 3, 1) := by decide +kernel
theorem dX6_takeRow_30 : decode cX6_takeRow 30 = .ok (.iload 4, 2) := by decide +kernel
theorem dX6_takeRow_32 : decode cX6_takeRow 32 = .ok (.invokevirtual 205, 3) := by decide +kernel
theorem dX6_takeRow_35 : decode cX6_takeRow 35 = .ok (.iconst 1, 1) := by decide +kernel
theorem dX6_takeRow_36 : decode cX6_takeRow 36 = .ok (.ireturn, 1) := by decide +kernel
theorem dX6_setLine_0 : decode cX6_setLine 0 = .ok (.aload_n 0, 1) := by decide +kernel
theorem dX6_setLine_1 : decode cX6_setLine 1 = .ok (.getfield 55, 3) := by decide +kernel
theorem dX6_setLine_4 : decode cX6_setLine 4 = .ok (.iconst 0, 1) := by decide +kernel
theorem dX6_setLine_5 : decode cX6_setLine 5 = .ok (.iload_n 1, 1) := by decide +kernel
theorem dX6_setLine_6 : decode cX6_setLine 6 = .ok (.iastore, 1) := by decide +kernel
theorem dX6_setLine_7 : decode cX6_setLine 7 = .ok (.aload_n 0, 1) := by decide +kernel
theorem dX6_setLine_8 : decode cX6_setLine 8 = .ok (.getfield 55, 3) := by decide +kernel
theorem dX6_setLine_11 : decode cX6_setLine 11 = .ok (.iconst 1, 1) := by decide +kernel
theorem dX6_setLine_12 : decode cX6_setLine 12 = .ok (.iload_n 2, 1) := by decide +kernel
theorem dX6_setLine_13 : decode cX6_setLine 13 = .ok (.iastore, 1) := by decide +kernel
theorem dX6_setLine_14 : decode cX6_setLine 14 = .ok (.aload_n 0, 1) := by decide +kernel
theorem dX6_setLine_15 : decode cX6_setLine 15 = .ok (.getfield 55, 3) := by decide +kernel
theorem dX6_setLine_18 : decode cX6_setLine 18 = .ok (.iconst 2, 1) := by decide +kernel
theorem dX6_setLine_19 : decode cX6_setLine 19 = .ok (.iload_n 3, 1) := by decide +kernel
theorem dX6_setLine_20 : decode cX6_setLine 20 = .ok (.iastore, 1) := by decide +kernel
theorem dX6_setLine_21 : decode cX6_setLine 21 = .ok (.return_, 1) := by decide +kernel
theorem dX6_toldBack_0 : decode cX6_toldBack 0 = .ok (.sipush 10000, 3) := by decide +kernel
theorem dX6_toldBack_3 : decode cX6_toldBack 3 = .ok (.aload_n 0, 1) := by decide +kernel
theorem dX6_toldBack_4 : decode cX6_toldBack 4 = .ok (.getfield 55, 3) := by decide +kernel
theorem dX6_toldBack_7 : decode cX6_toldBack 7 = .ok (.iconst 0, 1) := by decide +kernel
theorem dX6_toldBack_8 : decode cX6_toldBack 8 = .ok (.iaload, 1) := by decide +kernel
theorem dX6_toldBack_9 : decode cX6_toldBack 9 = .ok (.imul, 1) := by decide +kernel
theorem dX6_toldBack_10 : decode cX6_toldBack 10 = .ok (.bipush 100, 2) := by decide +kernel
theorem dX6_toldBack_12 : decode cX6_toldBack 12 = .ok (.aload_n 0, 1) := by decide +kernel
theorem dX6_toldBack_13 : decode cX6_toldBack 13 = .ok (.getfield 55, 3) := by decide +kernel
theorem dX6_toldBack_16 : decode cX6_toldBack 16 = .ok (.iconst 1, 1) := by decide +kernel
theorem dX6_toldBack_17 : decode cX6_toldBack 17 = .ok (.iaload, 1) := by decide +kernel
theorem dX6_toldBack_18 : decode cX6_toldBack 18 = .ok (.imul, 1) := by decide +kernel
theorem dX6_toldBack_19 : decode cX6_toldBack 19 = .ok (.iadd, 1) := by decide +kernel
theorem dX6_toldBack_20 : decode cX6_toldBack 20 = .ok (.aload_n 0, 1) := by decide +kernel
theorem dX6_toldBack_21 : decode cX6_toldBack 21 = .ok (.getfield 55, 3) := by decide +kernel
theorem dX6_toldBack_24 : decode cX6_toldBack 24 = .ok (.iconst 2, 1) := by decide +kernel
theorem dX6_toldBack_25 : decode cX6_toldBack 25 = .ok (.iaload, 1) := by decide +kernel
